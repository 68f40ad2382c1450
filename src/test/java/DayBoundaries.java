/** The boundaries of what happens: a DAY, LEARNING, ACTS. */
final class DayBoundaries extends Boundaries {
    private DayBoundaries() {
    }

    static void run() {
        forgetting();
        memories();
        seeking();
        learning();
        teachers();
        keptActs();
        acts();
        undoing();
    }

    private static void forgetting() {
        sentence("A DAY: PERSON by PERSON, SONG by SONG that one HAS: NOTE by NOTE that is no GAP until one is forgotten"
            + " (at most one of each SONG):");
        GapSongs x = of("song 1 2 3;song 4 5;person 0 0;person 0 0;has 0 0 0;has 0 1 0;has 1 0 1;forgets 1;");
        x.days(1);
        due("one of each SONG", sungBy(x, 0, 0), "_23");
        due("one of each SONG", sungBy(x, 0, 1), "_5");
        due("a GAP is passed over", sungBy(x, 1, 0), "__3");
        due("a SONG that one hasn't", sungBy(x, 1, 1), "-");
        GapSongs y = of("song 3 1 2 1;person 0 0;has 0 0 0;forgets note=1;");
        y.days(1);
        due("the first for which it holds", sungBy(y, 0, 0), "3_21");

        sentence("it is forgotten, if FORGETS, by what is so at its turn, gives more than 0 for it;");
        expr("1", 1);
        expr("0", 0);
        expr("0-1", 0);
        expr("2147*1000*1000+483*1000+647", 1);
        expr("2147*1000*1000+483*1000+648", 0);
        GapSongs z = of("song 4;person 0 0;person 0 0;person 0 0;has 0 0 0;has 1 0 0;has 2 0 0;forgets with;");
        z.days(1);
        due("the last one is with nobody at its turn", z.song(0, 1), 4);
        GapSongs w = of("song 1 2 3;person 0 0;person 0 0;has 0 0 0;has 1 0 3;forgets gaps=1 or gaps=2 and with=1;");
        w.days(1);
        due("nobody has 1 GAP, 1 has 2 and forgets the last NOTE", w.song(0, 1), 1);
    }

    private static void memories() {
        sentence("without the rule the first NOTE that is no GAP is, if DAY MOD (MEMORY and 1) is 0.");
        String eight = "song 1 2 3 4 5 6 7 8;";
        for (int memory = 0; memory <= 9; memory++) {
            GapSongs x = of(eight + "person " + memory + " 0;has 0 0 0;");
            for (int days = 0; days <= 100; days++) {
                int gaps = (days + memory) / (memory + 1); // DAYS 0, MEMORY and 1, twice that ..
                due("whether one HAS it, memory " + memory + " behind " + days, x.then(0, 0, days, 0), gaps < 8 ? 1 : 0);
                due("GAPS of memory " + memory + " behind " + days, x.then(0, 0, days, 1), gaps < 8 ? gaps : 0);
            }
        }
        GapSongs y = of("song 1 2 3;person 0 0;has 0 0 1;");
        y.days(1);
        due("the first that is no GAP", sungBy(y, 0, 0), "__3");

        sentence("It is a GAP then; has one GAPS alone, one HAS the SONG no more.");
        GapSongs z = of("song 1 2;song 3;person 0 0;has 0 0 0;has 0 1 0;");
        z.days(1);
        due("a GAP", sungBy(z, 0, 0), "_2");
        due("GAPS alone", sungBy(z, 0, 1), "-");
        due("GAPS of what one hasn't", z.has(0, 1, 1), 0);
        z.days(1);
        due("GAPS alone", sungBy(z, 0, 0), "-");
        due("GAPS of all", z.count(4), 0);
    }

    private static void seeking() {
        sentence("Then PERSON by PERSON who SEEKS: if one hasn't the SONG at one's turn,"
            + " and the other one HAS it with a GAP or more then, one LEARNS it, and SEEKS nothing any more.");
        GapSongs x = of("song 1 2;person 0 0;person 0 0;has 0 0 0;seeks 1 0 0;");
        x.days(1);
        due("of one whose first GAP comes that DAY", sungBy(x, 1, 0), "02");
        due("SEEKS nothing any more", x.count(5), 0);
        GapSongs y = of("song 1 2;person 0 0;person 0 0;has 0 0 1;seeks 1 0 0;");
        y.days(1);
        due("of one who HAS it no more that DAY", sungBy(y, 1, 0), "-");
        due("one SEEKS on", y.person(1, 4), 0);
        GapSongs z = of("song 1 2;person 0 0;person 0 0;has 0 0 0;has 1 0 2;seeks 1 0 0;");
        z.days(1);
        due("who HAS it no more that DAY", sungBy(z, 1, 0), "02");
        GapSongs w = of("song 1 2;person 0 0;person 0 0;has 0 0 0;has 1 0 0;seeks 1 0 0;forgets day=0 and place=0;");
        w.days(20);
        due("who HAS it", sungBy(w, 1, 0), "_2");
        due("who HAS it SEEKS on", w.count(5), 2);
        GapSongs v = of("song 1 2;person 0 0;person 0 0;has 0 0 0;seeks 1 0 0;forgets day=9;");
        v.days(9);
        due("of one without a GAP", sungBy(v, 1, 0), "-");
        v.days(1);
        due("of one with a GAP", sungBy(v, 1, 0), "02");
        GapSongs t = of("song 1 2;person 0 9;person 0 4;has 0 0 0;seeks 1 0 0;fills wit;");
        t.days(1);
        due("by the WIT of who LEARNS", sungBy(t, 1, 0), "42");
        inTurn();

        sentence("The DAY is one more then.");
        GapSongs u = of("song 1 2;person 0 0;person 0 0;has 0 0 1;seeks 1 0 0;forgets 0;fills day+4;");
        u.days(1);
        due("the DAY as it was by the rule", sungBy(u, 1, 0), "42");
        due("the DAY", u.count(2), 1);
    }

    private static void inTurn() {
        GapSongs x = of("song 1 2 3;person 0 0;person 0 0;person 0 0;has 0 0 1;seeks 1 0 0;seeks 2 0 1;forgets day=1;");
        x.days(1);
        due("1 LEARNS of 0", sungBy(x, 1, 0), "023");
        due("2 can't LEARN of 1 that DAY, who has no GAP", sungBy(x, 2, 0), "-");
        x.days(1);
        due("but the DAY behind", sungBy(x, 2, 0), "023");
        GapSongs y = of("song 1 2 3;person 0 0;person 0 0;person 0 0;has 2 0 1;seeks 0 0 1;seeks 1 0 2;forgets day=1;");
        y.days(1);
        due("0's turn is ahead of 1's", y.song(0, 1), 6);
        y.days(1);
        due("0 LEARNS the DAY behind", sungBy(y, 0, 0), "023");
        GapSongs z = of("song 1 2;person 0 0;person 0 0;person 0 0;has 0 0 1;seeks 1 0 0;seeks 2 0 0;forgets 0;");
        z.days(1);
        due("two of one on one DAY", z.song(0, 1), 7);
    }

    private static void learning() {
        sentence("One LEARNS a SONG of another one so: NOTE by NOTE one has what the other one has;"
            + " for a GAP one has what FILLS gives then, kept to 0 to 9");
        String[] rules = {"0-1", "0", "9", "10", "9999*9999*9999", "2147*1000*1000+483*1000+647",
            "2147*1000*1000+483*1000+648", "0-9"};
        String[] notes = {"0", "0", "9", "9", "0", "9", "0", "0"};
        for (int i = 0; i < rules.length; i++) {
            due("fills " + rules[i], learnt("song 5 7;person 0 0;person 0 0;has 0 0 1;fills " + rules[i] + ";"),
                notes[i] + "7");
        }
        due("what isn't THE FIRST's any more", hummed(), "89");

        sentence("(without it the NOTE ahead of it as one has it, 0 at the beginning).");
        String two = "person 0 0;person 0 0;";
        due("at the beginning", learnt("song 5 7;" + two + "has 0 0 1;"), "07");
        due("GAPS at the beginning", learnt("song 5 7 8;" + two + "has 0 0 3;"), "008");
        due("at the end", learnt("song 5 7;" + two + "has 0 0 2;"), "55");
        due("one behind the other", learnt("song 1 2 3 4 5 6 7 8;" + two + "has 0 0 126;"), "11111118");
    }

    /** 0 has 8 7 in place of 5 7, and forgets the 7. */
    private static String hummed() {
        GapSongs x = of("song 5 7;person 0 0;person 0 0;has 0 0 1;forgets place=1;fills before+1;");
        x.hum(0, 0, 0, 8);
        x.days(1);
        x.learn(1, 0, 0);
        return sungBy(x, 1, 0);
    }

    private static void teachers() {
        sentence("One HAS it without GAPS then, and that other one is one's TEACHER of it (nobody is, of who had it at first;"
            + " it stays so when one HAS it no more, until one LEARNS it again).");
        GapSongs x = of("song 1 2;song 1 2;person 0 0;person 0 0;person 0 0;has 0 0 1;has 1 0 1;has 0 1 1;forgets 0;");
        due("of who had it at first", x.has(0, 0, 3), NONE);
        due("of who hasn't it", x.has(2, 0, 3), NONE);
        x.learn(2, 0, 1);
        due("without GAPS", x.has(2, 0, 1), 0);
        due("the TEACHER", x.has(2, 0, 3), 1);
        due("of another SONG", x.has(2, 1, 3), NONE);
        x.giveUp(2, 0);
        due("when one HAS it no more", x.has(2, 0, 3), 1);
        x.giveUp(1, 0);
        due("when the TEACHER HAS it no more", x.has(2, 0, 3), 1);
        x.learn(2, 0, 0);
        due("when one LEARNS it again", x.has(2, 0, 3), 0);
        x.giveUp(0, 1);
        x.giveUp(0, 0);
        due("who had it at first and gave it up", x.has(0, 0, 3), NONE);
    }

    private static void keptActs() {
        sentence("ACTS (at most 40 are kept, the latest ones):");
        for (int many : new int[] {1, 39, 40, 41, 79, 80, 81, 120}) {
            GapSongs x = new GapSongs();
            for (int i = 0; i < many; i++) {
                x.days(1);
            }
            int kept = Math.min(many, 40);
            due("kept of " + many, x.count(6), kept);
            for (int left = kept - 1; left >= 0; left--) {
                due("undo() of " + many, x.undo(), left);
                due("the DAY then", x.count(2), many - kept + left);
            }
            due("none left of " + many, x.undo(), NONE);
            due("what isn't kept stays", x.count(2), many - kept);
        }

        sentence("DAYS go by (1 to 20);");
        GapSongs y = of("song 1 2 3 4 5 6 7 8;person 9 0;has 0 0 0;");
        refused(y, "-1", 1, "days", 0);
        refused(y, "-1", 1, "days", 21);
        due("days(1)", y.days(1), 1);
        due("days(20)", y.days(20), 21);
        due("DAYS 0, 10, 20", y.has(0, 0, 1), 7);
        due("one ACT each", y.count(6), 2);
    }

    private static void acts() {
        sentence("one LEARNS a SONG that one hasn't of another one who HAS it with a GAP or more (what one SEEKS stays);");
        GapSongs x = of(THREE);
        due("learn(2, 0, 1)", x.learn(2, 0, 1), 3);
        due("what one SEEKS", x.person(2, 3), 0);
        due("of whom", x.person(2, 4), 1);
        refused(x, "-1", 1, "learn", 2, 0, 1);
        refused(x, "-1", 1, "learn", 1, 0, 2);

        sentence("one SEEKS a SONG of another one from now on (in place of what one sought), or nothing;");
        GapSongs y = of(THREE);
        due("another SONG of another one", y.seek(2, 1, 0), true);
        due("in place of what one sought", y.person(2, 3), 1);
        due("of whom", y.person(2, 4), 0);
        due("the same SONG of another one", y.seek(2, 1, 1), true);
        due("of whom", y.person(2, 4), 1);
        due("nothing", y.seek(2, 0, NONE), true);
        due("nothing", y.person(2, 3), NONE);
        due("of nobody", y.person(2, 4), NONE);
        due("and again", y.seek(2, 0, 1), true);
        due("four ACTS", y.count(6), 4);

        sentence("one gives a SONG UP that one HAS (one HAS it no more);");
        GapSongs z = of(THREE);
        due("giveUp(0, 1)", z.giveUp(0, 1), 1);
        due("one HAS it no more", z.has(0, 1, 0), 0);
        due("the other SONG stays", sungBy(z, 0, 0), "1234");
        refused(z, "-1", 1, "giveUp", 0, 1);

        sentence("a GAP of one who HAS a SONG is HUMMED: it is a NOTE (0 to 9) then.");
        GapSongs w = of("song 1 2 3 4 5 6 7 8;person 0 0;has 0 0 129;");
        due("0 at the first place", w.hum(0, 0, 0, 0), true);
        due("9 at the last place", w.hum(0, 0, 7, 9), true);
        due("NOTES", sungBy(w, 0, 0), "02345679");
        refused(w, "false", 1, "hum", 0, 0, 0, 0);
        refused(of(THREE), "false", 1, "hum", 1, 0, 1, -1);
        refused(of(THREE), "false", 1, "hum", 1, 0, 1, 10);
    }

    private static void undoing() {
        sentence("They are UNDONE, the last one first.");
        GapSongs x = actsOf(5);
        for (int left = 4; left >= 0; left--) {
            due("undo()", x.undo(), left);
            due("what is so with " + left, all(x), all(actsOf(left)));
        }
    }

    /** The first so many of five ACTS, each of another kind, with no question between. */
    private static GapSongs actsOf(int many) {
        GapSongs x = of(THREE);
        lookFar(x);
        for (int act = 1; act <= many; act++) {
            due("ACT " + act, act(x, act), true);
        }
        return x;
    }

    private static boolean act(GapSongs x, int act) {
        switch (act) {
            case 1: return x.days(1) == 1;
            case 2: return x.giveUp(2, 0) == 0;
            case 3: return x.seek(2, 1, 1);
            case 4: return x.learn(2, 0, 0) == 3;
            default: return x.hum(1, 0, 0, 7);
        }
    }
}
