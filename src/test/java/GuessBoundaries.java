import java.util.Arrays;

/** The boundaries of part 4: what is HEARD, WINTERS, GAMES, YEARS by a seed, STATUS. */
final class GuessBoundaries extends Boundaries {
    private GuessBoundaries() {
    }

    static void run() {
        heard();
        otherwise();
        othersAndWithout();
        hearNext();
        winters();
        game();
        resting();
        years();
        draws();
        nobodyToDraw();
        status();
    }

    private static void heard() {
        sentence("HEARD (at most 8): that one has a NOTE (0 to 9), or a GAP, or hasn't the SONG (both NONE),"
            + " at a place of a SONG behind so many DAYS (0 to 20).");
        GapSongs x = singers("09", "forgets day=19 and place=0;", "09", "_9", "-");
        for (int i = 1; i <= 7; i++) {
            due("hear " + i, x.hear(0, 0, i % 2, i % 2, i % 2 == 0 ? 0 : 9), i);
        }
        due("hear 8", x.hear(0, 0, 0, 20, NONE), 8);
        due("all 8 are so", x.otherwise(2), 1);
        due("hear 9", x.hear(0, 0, 0, 20, NONE), NONE);
        due("8 stay", x.count(7), 8);
        so(x, 1, 0, 0, 0, 0, 0);
        so(x, 0, 0, 0, 0, 0, NONE);
        so(x, 0, 0, 0, 0, 0, 9);
        so(x, 1, 0, 0, 1, 0, 9);
        so(x, 1, 1, 0, 0, 0, NONE);     // a GAP
        so(x, 0, 1, 0, 0, 0, 0);
        so(x, 1, 2, 0, 1, 20, NONE);    // one hasn't it
        so(x, 0, 2, 0, 1, 20, 9);
        so(x, 1, 0, 0, 0, 19, 0);
        so(x, 0, 0, 0, 0, 19, NONE);
        so(x, 1, 0, 0, 0, 20, NONE);
        so(x, 0, 0, 0, 0, 20, 0);
        GapSongs y = of("song 1 2;song 3 4;song 5 6;song 7 8;song 9 0;person 0 0;person 1 0;has 1 4 0;has 1 3 1;");
        so(y, 1, 1, 4, 0, 0, 9);
        so(y, 1, 1, 4, 1, 0, 0);
        so(y, 0, 1, 4, 1, 0, 9);
        so(y, 1, 1, 3, 1, 0, 8);
        so(y, 0, 1, 0, 1, 0, 2);
    }

    /** Whether this, HEARD alone, is so without another MEMORY. */
    private static void so(GapSongs x, int want, int person, int song, int place, int days, int note) {
        x.forget();
        String what = person + " at " + place + " behind " + days + " has " + note;
        due("hear: " + what, x.hear(person, song, place, days, note), 1);
        due("whether " + what, x.otherwise(2), want);
    }

    private static void otherwise() {
        sentence("OTHERWISE: PEOPLE and MEMORIES (0 to 9, another one than one has) by one of which from now on all HEARD"
            + " would be so: how many; the first (10 by who, and MEMORY);");
        GapSongs none = of("song 1;" + "person 0 0;".repeat(7));
        due("nothing HEARD of 7", none.otherwise(0), 63);
        due("another MEMORY than one has", none.otherwise(1), 1);
        due("nothing HEARD, MEMORY 9", of("person 9 0;").otherwise(1), 0);
        due("nobody", of("song 1;").otherwise(0), 0);
        due("nobody", of("song 1;").otherwise(1), NONE);
        GapSongs x = of("song 1 2 3;" + "person 0 0;".repeat(7) + "has 6 0 0;");
        x.days(1);                  // all forget on DAY 0, MEMORY 8 on DAY 9, MEMORY 9 on DAY 10
        x.hear(6, 0, 1, 9, 2);
        due("the last one alone", x.otherwise(0), 1);
        due("the last one alone", x.otherwise(1), 69);
        x.hear(6, 0, 1, 10, 2);
        due("nobody's any more", x.otherwise(0), 0);
        due("nobody's any more", x.otherwise(1), NONE);
        x.forget();
        x.hear(6, 0, 1, 10, NONE);  // not by the MEMORIES 5 to 8 alone, which forget on DAY 6 .. 9: they do, too
        due("MEMORIES that forget by DAY 10", x.otherwise(0), 63);
        x.days(1);
        due("from now on: DAYS 2 to 11", x.otherwise(2), 1);
        GapSongs y = of("song 1 2;person 3 0;has 0 0 0;forgets memory=9 and day=0 or memory=0 and day=1;");
        y.hear(0, 0, 0, 1, NONE);
        due("MEMORY 9 by the rule", y.otherwise(1), 9);
        due("MEMORY 9 by the rule", y.otherwise(0), 1);
        y.forget();
        y.hear(0, 0, 0, 1, 1);
        y.hear(0, 0, 0, 2, NONE);
        due("MEMORY 0 by the rule", y.otherwise(1), 0);
        due("MEMORY 0 by the rule", y.otherwise(0), 1);
        due("MEMORY stays", y.person(0, 0), 3);
        due("MEMORIES of 0 to 9 alone", of("person 3 0;forgets memory<0 or 9<memory;").otherwise(0), 9);
        GapSongs z = singers("12", "", "12");
        due("by all but its own 0", z.otherwise(0), 9);
        due("by its own again behind it", z.then(0, 0, 2, 0), 0);
    }

    private static void othersAndWithout() {
        sentence("whether it is so without (1).");
        GapSongs x = of("song 1 2;person 3 0;person 5 0;has 0 0 0;forgets memory=4 and place=0;");
        due("nothing HEARD", x.otherwise(2), 1);
        due("nothing HEARD of nobody", new GapSongs().otherwise(2), 1);
        x.hear(0, 0, 0, 1, 1);
        due("so without", x.otherwise(2), 1);
        due("all but 0's 4: 8 and 9", x.otherwise(0), 17);
        GapSongs y = of("song 1 2;person 9 0;has 0 0 0;");
        y.hear(0, 0, 1, 10, 2);
        due("by 9, not by 0", y.otherwise(2), 1);
        y.hear(0, 0, 0, 1, NONE);
        due("by 9, on DAY 0", y.otherwise(2), 1);
        x.hear(0, 0, 0, 2, NONE);
        due("not so", x.otherwise(2), 0);
        due("by none", x.otherwise(0), 0);
        x.forget();
        x.hear(0, 0, 0, 1, NONE);
        due("not so without", x.otherwise(2), 0);
        due("by 0's 4", x.otherwise(1), 4);
        for (int i = 2; i <= 7; i++) {
            x.hear(0, 0, 0, 1, NONE);
        }
        due("the 8th", x.hear(0, 0, 1, 0, 9), 8);
        due("by none, for the 8th", x.otherwise(0), 0);
    }

    private static void hearNext() {
        sentence("HEAR NEXT: who has most unlike numbers of GAPS in all SONGS that one HAS, together, behind 10 DAYS by these"
            + " (of like ones the least): how many; none without any.");
        String one = "song 1 2;song 3 4;person 0 0;person 0 0;has 1 0 0;has 1 1 0;forgets memory=5 and place=0 and day=";
        GapSongs x = of(one + "9;");
        due("unlike behind 10 DAYS: who", x.ask(0), 1);
        due("unlike behind 10 DAYS: how many", x.ask(1), 2);
        GapSongs y = of(one + "10;");
        due("like behind 10 DAYS: who", y.ask(0), 0);
        due("like behind 10 DAYS: how many", y.ask(1), 1);
        GapSongs z = of("song 1 2;song 3 4;person 0 0;has 0 0 0;has 0 1 0;"
            + "forgets day=0 and (memory=5 and note=1 or memory=6 and note=3 or memory=7 and place=0);");
        due("0, 1 of each, 2 together", z.ask(1), 3);
        GapSongs w = of("song 1;person 0 0;has 0 0 0;forgets memory=5;");
        due("of what one HAS no more", w.ask(1), 1);
        z.hear(0, 0, 0, 1, NONE);
        due("by MEMORY 5 and 7 alone", z.ask(1), 2);
        z.hear(0, 0, 0, 0, 9);
        due("by none", z.ask(0), NONE);
        due("by none", z.ask(1), 0);
        due("nobody", of("song 1;").ask(0), NONE);
        due("nobody", new GapSongs().ask(1), 0);
        GapSongs v = of("song 1 2 3 4 5 6 7 8;person 0 0;person 0 0;has 0 0 0;has 1 0 0;forgets day<memory and place+1<8;");
        due("0 to 7 GAPS", v.ask(1), 8);
        due("of like ones", v.ask(0), 0);
        String three = "song 1 2 3;person 3 0;has 0 0 0;forgets ";
        due("by MEMORY 0, too", of(three + "memory=0 and place=0;").ask(1), 2);
        due("by MEMORY 9, too", of(three + "memory=9 and place=0;").ask(1), 2);
        due("by 0 to 9 alone", of(three + "place=0 and (memory<0 or 9<memory);").ask(1), 1);
        GapSongs u = of(three + "place=0 and day=12;");
        u.hear(0, 0, 2, 5, 3);
        due("10 DAYS from now, not from what is HEARD", u.ask(1), 1);
        GapSongs t = of(three + "memory=5 and place=0 and day=12;");
        t.hear(0, 0, 2, 5, 3);
        due("10 DAYS from now, not from what is HEARD", t.ask(1), 1);
        GapSongs q = of("song 1 2;person 0 0;person 0 0;person 0 0;has 2 0 0;forgets memory=5 and place=0;");
        due("more PEOPLE than SONGS: who", q.ask(0), 2);
        due("more PEOPLE than SONGS: how many", q.ask(1), 2);
        due("not by its own", of(three + "memory=3 and place=0;").ask(1), 1);
        for (int memory = 0; memory <= 9; memory += 9) {
            GapSongs r = of("song 1 2;person " + memory + " 0;has 0 0 0;");
            r.ask(0);
            due("by its own MEMORY again behind it", r.then(0, 0, 2, 0), memory == 0 ? 0 : 1);
        }
    }

    private static void winters() {
        sentence("WINTERS: on each of so many DAYS (1 to 5) it is WINTER with so many tenths (0 to 10): nobody forgets"
            + " (all else as ever): how likely one HAS a SONG without GAPS behind them:"
            + " as so many of 10 to the power of these DAYS.");
        GapSongs x = singers("12", "", "12", "_2", "-");
        int power = 1;
        int tenthsPower = 1;
        for (int days = 1; days <= 5; days++) {
            power *= 10;
            tenthsPower *= 7;
            due("always WINTER for " + days, x.winters(0, 0, days, 10), power);
            due("never WINTER for " + days, x.winters(0, 0, days, 0), 0);
            due("7 tenths for " + days, x.winters(0, 0, days, 7), tenthsPower);
            due("1 tenth for " + days, x.winters(0, 0, days, 1), 1);
            due("with a GAP", x.winters(1, 0, days, 10), 0);
            due("who hasn't it", x.winters(2, 0, days, 10), 0);
        }
        due("never WINTER, never forgotten", singers("12", "forgets 0;", "12").winters(0, 0, 5, 0), 100000);
        due("the DAY goes by in WINTER", singers("12", "forgets day=1;", "12").winters(0, 0, 2, 3), 30);
        due("the 5th DAY", singers("12", "forgets day=4;", "12").winters(0, 0, 5, 3), 30000);
        due("a DAY behind them", singers("12", "forgets day=5;", "12").winters(0, 0, 5, 3), 100000);
        GapSongs y = singers("12", "seeks 1 0 0;", "_2", "-");
        due("one LEARNS in WINTER", y.winters(1, 0, 1, 3), 3);
        due("and keeps it in WINTER", y.winters(1, 0, 2, 3), 9);
        due("nothing has happened", y.count(2), 0);
    }

    private static void game() {
        sentence("A GAME of two about a SONG that both HAVE: each gives it UP now, or not (1, 0):"
            + " each gains 3 for each whose TEACHER of it one is behind 20 DAYS (who HAS it then, or not),"
            + " and 1 for each NOTE that one has of it then.");
        // 0 has 1 NOTE; who gives it up LEARNS 3 of 1, if 1 has a GAP in time: on DAY 19, not on DAY 20
        String late = "seeks 0 0 1;forgets note=1 and day=";
        GapSongs x = singers("123", late + "19;", "__3", "123");
        due("behind 20 DAYS", x.game(0, 1, 0, 0), 1);
        due("behind 20 DAYS: giving it UP", x.game(0, 1, 0, 1), 10);
        due("the other one's", x.game(1, 0, 0, 1), 1);
        GapSongs second = of("song 9;song 1 2 3;person 0 0;person 0 0;has 0 1 3;has 1 1 0;"
            + "seeks 0 1 1;forgets note=1 and day=19;");
        due("of another SONG", second.game(0, 1, 1, 1), 10);
        due("of another SONG, the other one's", second.game(1, 0, 1, 1), 1);
        GapSongs y = singers("123", late + "20;", "__3", "123");
        due("behind 21 DAYS", y.game(0, 1, 0, 0), 1);
        due("behind 21 DAYS: not", y.game(0, 1, 0, 1), 0);
        pupilOrNotes("__678", 1, 0);
        pupilOrNotes("___78", 2, 0);
        pupilOrNotes("____8", 1, 10);
        // who LEARNT and lost it again is a PUPIL all the same: 0 stays for the sake of 2
        GapSongs z = singers("12", "seeks 2 0 0;forgets day<9;", "12", "12", "-");
        due("a PUPIL who HAS it no more", z.then(2, 0, 20, 0), 0);
        due("a PUPIL who HAS it no more", z.game(0, 1, 0, 0), 2);
        due("a PUPIL who HAS it no more", z.game(0, 1, 0, 1), 0);
        due("a PUPIL who HAS it no more", z.game(1, 0, 0, 1), 0);
        // 0 has a PUPIL and no NOTE, or three NOTES anew of 1 and no PUPIL; 1 has no NOTE in any case
        GapSongs w = of("song 1 1 1;person 0 1;person 0 2;person 0 0;has 0 0 0;has 1 0 1;seeks 0 0 1;seeks 2 0 0;fills 9;"
            + "forgets wit=1 and (note=1 and place=0 or 0<gaps) or wit=2 and 0<day;");
        due("a PUPIL and no NOTE", w.game(0, 1, 0, 0), 3);
        due("a PUPIL and no NOTE", w.game(0, 1, 0, 1), 0);
        due("one hasn't it", z.game(0, 2, 0, 0), NONE);
        due("one hasn't it", z.game(2, 0, 0, 1), NONE);
    }

    /** 0 has a PUPIL by staying, or LEARNS five NOTES and has none. */
    private static void pupilOrNotes(String row, int many, int first) {
        GapSongs x = singers("45678", "seeks 0 0 1;seeks 2 0 0;forgets 0;", row, "_5678", "-");
        due("a PUPIL and " + row + ", or 5 NOTES: how many", x.game(0, 1, 0, 0), many);
        due("a PUPIL and " + row + ", or 5 NOTES: the first", x.game(0, 1, 0, 1), first);
    }

    private static void resting() {
        sentence("A couple RESTS, if neither gains more by the other choice: how many;"
            + " the first (10 by the first one's and the other one's); none, if one hasn't it.");
        GapSongs all = singers("1", "", "1", "1");
        due("all four", all.game(0, 1, 0, 0), 4);
        due("all four", all.game(0, 1, 0, 1), 0);
        // whose WIT is as many as others HAVE it loses four NOTES; who gives it UP LEARNS it of 2 and loses one:
        // 0 would do as 1 does, and 1 would not do as 0 does
        GapSongs x = of("song 1 1 1 1 1 1 1 1;person 0 1;person 0 2;person 0 0;has 0 0 0;has 1 0 0;has 2 0 1;"
            + "seeks 0 0 2;seeks 1 0 2;fills 9;"
            + "forgets wit and (day=0 and with=wit or day<4 and 0<gaps or day=5 and note=9);");
        due("no couple", x.game(0, 1, 0, 0), 0);
        due("no couple", x.game(0, 1, 0, 1), NONE);
        // each would LEARN it of the other one, who must stay: 0 1 and 1 0
        GapSongs y = singers("123456", "seeks 0 0 1;seeks 1 0 0;forgets 0;", "_____6", "1_____");
        due("two couples", y.game(0, 1, 0, 0), 2);
        due("two couples", y.game(0, 1, 0, 1), 1);
        GapSongs z = singers("12", "forgets 0;", "12", "-", "12");
        due("nobody gives it UP", z.game(0, 2, 0, 1), 0);
        due("nobody gives it UP", z.game(0, 2, 0, 0), 1);
        due("one hasn't it", z.game(0, 1, 0, 0), NONE);
        due("one hasn't it", z.game(1, 2, 0, 1), NONE);
        due("nothing has happened", z.song(0, 1), 5);
    }

    private static int draw(long[] seed, int n) {
        seed[0] = (seed[0] * 1103515245L + 12345L) % 4294967296L;
        return (int) (seed[0] / 65536L % 32768L % n);
    }

    private static void years() {
        sentence("YEARS by a seed: n DAYS (0 to 100) from now on: ahead of each a DRAW of 5: 0 a DRAW of PEOPLE SEEKS"
            + " a DRAW of SONGS of a DRAW of PEOPLE (all three are drawn first; if the last one is oneself,"
            + " one SEEKS nothing any more);");
        GapSongs x = singers("12", "forgets 0;", "_2", "-", "-", "-");
        GapSongs late = singers("12", "forgets day=9 and place=0;", "12", "-", "-", "-");
        for (int seed : new int[] {0, 1, -1, MANY, FEW, 5, 77, 1234567}) {
            for (int n : new int[] {0, 1, 2, 17, 99, 100}) {
                playSeekers(x, seed, n, 0);
            }
        }
        for (int seed = 0; seed < 160; seed++) {
            playSeekers(late, seed * 26843546 - MANY, 10, 9);
        }
        illegal("n 101", () -> x.years(5, 101, 0));
        illegal("n -1", () -> x.years(5, -1, 0));
        GapSongs y = of("song 1 2;" + "person 0 0;".repeat(7) + "has 0 0 0;seeks 1 0 0;forgets day=99 and place=0;");
        int lazy = lazySeed(100);
        due("GAPS behind 99", y.years(lazy, 99, 1), 0);
        due("GAPS behind 100", y.years(lazy, 100, 1), 1);
        due("LEARNT behind 99", y.years(lazy, 99, 0), 0);
        due("LEARNT behind 100", y.years(lazy, 100, 0) > 0, true);
        due("nothing has happened", y.count(2), 0);
    }

    /** 0 has a GAP from this DAY on: it is learnt of 0 alone, or of nobody, if 0 gives it UP; nobody else forgets. */
    private static void playSeekers(GapSongs x, int seed, int n, int gapDay) {
        long[] s = {seed & 0xFFFFFFFFL};
        boolean[] has = {true, false, false, false};
        int[] sought = {NONE, NONE, NONE, NONE};
        int taught = 0;
        for (int day = 0; day < n; day++) {
            int kind = draw(s, 5);
            if (kind == 0) {
                int who = draw(s, 4);
                draw(s, 1);
                int whom = draw(s, 4);
                sought[who] = who == whom ? NONE : whom;
            } else if (kind == 1) {
                int who = draw(s, 4);
                draw(s, 1);
                has[who] = false;
            }
            for (int p = 1; p < 4; p++) {
                if (sought[p] == 0 && has[0] && !has[p] && day >= gapDay) {
                    has[p] = true;
                    sought[p] = NONE;
                    taught++;
                }
            }
        }
        String years = " of years(" + seed + ", " + n + ")";
        due("how often one LEARNT" + years, x.years(seed, n, 0), taught);
        due("GAPS" + years, x.years(seed, n, 1), has[0] && n >= gapDay ? 1 : 0);
        due("SONGS that nobody HAS" + years, x.years(seed, n, 2), has[0] || has[1] || has[2] || has[3] ? 0 : 1);
    }

    /** A seed by which, of seven, 0 gives nothing UP and 1 SEEKS of nobody but 0 for so many DAYS. */
    private static int lazySeed(int days) {
        for (int seed = 0; seed < 1000000; seed++) {
            long[] s = {seed};
            boolean lazy = true;
            for (int day = 0; day < days && lazy; day++) {
                int kind = draw(s, 5);
                if (kind < 2) {
                    int who = draw(s, 7);
                    draw(s, 1);
                    int whom = kind == 0 ? draw(s, 7) : NONE;
                    lazy = kind == 0 ? who != 1 || whom == 0 : who != 0;
                }
            }
            if (lazy) {
                return seed;
            }
        }
        return NONE;
    }

    private static void draws() {
        sentence("1 a DRAW of PEOPLE gives a DRAW of SONGS UP, if one HAS it: how often one LEARNT in these DAYS;"
            + " how many GAPS all have in what they HAVE at the end; how many SONGS nobody HAS then.");
        GapSongs x = of("song 1 2;song 3;song 4 5 6;song 7;song 8 9;person 0 0;person 0 0;person 0 0;"
            + "has 0 0 1;has 1 0 0;has 0 1 0;has 2 2 3;has 1 3 0;has 2 4 1;forgets 0;");
        for (int seed = -60; seed < 60; seed++) {
            playGivers(x, seed, 3);
        }
        playGivers(x, MANY, 3);
        playGivers(x, FEW, 3);

        sentence("A seed becomes itself times 1103515245 and 12345 (an int that wraps);"
            + " a DRAW of n is its bits 16 to 30 MOD n then.");
        GapSongs y = of("song 1 2;" + "person 0 0;".repeat(7) + "has 6 0 1;forgets 0;");
        GapSongs z = singers("12", "forgets 0;", "_2");
        for (int i = 0; i < 120; i++) {
            int seed = i * 35791394 + 7;
            long[] s = {seed & 0xFFFFFFFFL};
            boolean given = draw(s, 5) == 1 && draw(s, 7) == 6;
            due("whether 6 gives it UP by " + seed, y.years(seed, 1, 2), given ? 1 : 0);
            due("whether one alone gives it UP by " + seed, z.years(seed, 1, 2), drawn(seed) == 1 ? 1 : 0);
        }
    }

    private static int drawn(int seed) {
        return draw(new long[] {seed & 0xFFFFFFFFL}, 5);
    }

    /** Who gives what UP in so few DAYS; where somebody SEEKS it is left to other tests. */
    private static void playGivers(GapSongs x, int seed, int n) {
        int[] has = {3, 9, 20};
        int[] gaps = {1, 0, 0, 0, 0, 0, 0, 0, 0, 0, 0, 0, 2, 0, 1};
        long[] s = {seed & 0xFFFFFFFFL};
        for (int day = 0; day < n; day++) {
            int kind = draw(s, 5);
            if (kind == 0) {
                return;
            }
            if (kind == 1) {
                int who = draw(s, 3);
                int song = draw(s, 5);
                has[who] &= ~(1 << song);
                gaps[5 * who + song] = 0;
            }
        }
        due("how often of " + seed, x.years(seed, n, 0), 0);
        due("GAPS of " + seed, x.years(seed, n, 1), Arrays.stream(gaps).sum());
        due("SONGS of " + seed, x.years(seed, n, 2), 5 - Integer.bitCount(has[0] | has[1] | has[2]));
    }

    private static void nobodyToDraw() {
        sentence("(Without PEOPLE, or without SONGS, the DRAWS of 5 alone.)");
        for (int seed = 0; seed < 10; seed++) {
            due("neither", new GapSongs().years(seed, 100, 0), 0);
            due("without PEOPLE", of("song 1;song 2;").years(seed, 100, 2), 2);
            due("without PEOPLE", of("song 1;song 2;").years(seed, 100, 1), 0);
            due("without SONGS", of("person 0 0;person 0 0;").years(seed, 100, 0), 0);
            due("without SONGS", of("person 0 0;person 0 0;").years(seed, 100, 2), 0);
        }
    }

    private static void status() {
        sentence("STATUS: how many calls were refused: 0 of TEXTS with a FAULT, 1 of ACTS, 2 of what is HEARD.");
        GapSongs x = of(THREE);
        tell(x, "song");
        tell(x, "person");
        x.days(0);
        x.learn(0, 0, 1);
        x.seek(0, 0, 0);
        x.giveUp(2, 0);
        x.hum(0, 0, 0, 0);
        x.hear(0, 0, 0, 21, 0);
        x.hear(0, 0, 0, 0, 10);
        x.hear(0, 0, 0, 0, -2);
        due("STATUS 0", x.count(9), 2);
        due("STATUS 1", x.count(10), 5);
        due("STATUS 2", x.count(11), 3);
        GapSongs y = new GapSongs();
        y.undo();
        y.restore();
        illegal("marsh(1)", () -> y.marsh(1));
        missing("learn(0, 0, 0)", () -> y.learn(0, 0, 0));
        missing("hear(0, 0, 0, 0, 0)", () -> y.hear(0, 0, 0, 0, 0));
        due("nothing of what throws, or has nothing to do", y.count(9) + y.count(10) + y.count(11), 0);
    }
}
