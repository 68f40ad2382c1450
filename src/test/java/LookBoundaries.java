/** The boundaries of what is seen: THEN, SONGS side by side, TEACHERS, LESSONS, and the rest of part 5. */
final class LookBoundaries extends Boundaries {
    private LookBoundaries() {
    }

    static void run() {
        thenAndNote();
        wholeAndSung();
        lostAndLearnt();
        mostSongs();
        unlikeAndCommon();
        toLearn();
        nearest();
        taughtBy();
        generations();
        lessons();
        firstRow();
    }

    /** What part 5 adds, which stands behind part 4 in the document. */
    static void runLast() {
        origin();
        kept();
        rarest();
        taughtAndForgotten();
        changesAndHighest();
        agreed();
    }

    private static void thenAndNote() {
        sentence("(If only DAYS go by, from now on:) THEN, behind so many DAYS (0 to 100): whether one HAS a SONG,"
            + " how many GAPS one has in it,");
        String late = "song 1 2 3;person 0 0;person 0 0;has 0 0 0;seeks 1 0 0;forgets day=99 and place<2;";
        GapSongs x = of(late);
        String before = all(x);
        due("now", x.then(0, 0, 0, 0), 1);
        due("now", x.then(1, 0, 0, 0), 0);
        due("GAPS behind 99", x.then(0, 0, 99, 1), 0);
        due("GAPS behind 100", x.then(0, 0, 100, 1), 1);
        due("behind 99", x.then(1, 0, 99, 0), 0);
        due("behind 100", x.then(1, 0, 100, 0), 1);
        illegal("behind 101", () -> x.then(0, 0, 101, 0));
        illegal("behind -1", () -> x.then(0, 0, -1, 0));
        due("what is so", all(x), before);
        x.days(1);
        due("GAPS behind 98 more", x.then(0, 0, 98, 1), 0);
        due("GAPS behind 99 more", x.then(0, 0, 99, 1), 1);

        sentence("how LIKE THE FIRST it is (how many NOTES one has just as THE FIRST has them at that place).");
        GapSongs y = singers("123", "forgets 0;", "123", "213", "1_3", "12_", "__3", "112", "-");
        int[] like = {3, 1, 2, 2, 1, 1, 0};
        for (int p = 0; p < like.length; p++) {
            due("then of " + p, y.then(p, 0, 0, 2), like[p]);
            due("then of " + p, y.then(p, 0, 100, 2), like[p]);
            due("has of " + p, y.has(p, 0, 2), like[p]);
        }

        sentence("WHICH NOTE one has then at a place.");
        GapSongs z = of(late);
        due("the first place behind 99", z.note(0, 0, 0, 99), 1);
        due("the first place behind 100", z.note(0, 0, 0, 100), NONE);
        due("the last place behind 100", z.note(0, 0, 2, 100), 3);
        due("of who hasn't it", z.note(1, 0, 2, 99), NONE);
        due("of who LEARNS it", z.note(1, 0, 0, 100), 0);
    }

    private static void wholeAndSung() {
        sentence("WHOLE then: who HAS a SONG without GAPS (bits); SUNG then: who HAS it (bits).");
        GapSongs x = singers("12", "forgets day=99 and place=0;", "12", "_2", "-", "1_", "12", "-", "12");
        due("WHOLE now", x.sung(0, 0, 0), 81);
        due("SUNG now", x.sung(0, 0, 1), 91);
        due("WHOLE behind 99", x.sung(0, 99, 0), 81);
        due("WHOLE behind 100", x.sung(0, 100, 0), 0);
        due("SUNG behind 99", x.sung(0, 99, 1), 91);
        due("SUNG behind 100", x.sung(0, 100, 1), 83);
        GapSongs y = singers("12", "forgets 0;", "12", "12", "12", "12", "12", "12", "12");
        due("all WHOLE", y.sung(0, 100, 0), 127);
        due("all SUNG", y.sung(0, 100, 1), 127);
        GapSongs z = singers("12", "", "-", "-");
        due("nobody", z.sung(0, 100, 0), 0);
        due("nobody", z.sung(0, 100, 1), 0);
    }

    private static void lostAndLearnt() {
        sentence("LOST: behind how many DAYS (0 to 100) nobody HAS a SONG first; none.");
        due("now", singers("1", "", "-").lost(0), 0);
        due("without PEOPLE", of("song 1;").lost(0), 0);
        due("behind 1", singers("1", "forgets 1;", "1", "1").lost(0), 1);
        due("behind 2", singers("12", "forgets 1;", "_2", "12").lost(0), 2);
        due("behind 100", singers("1", "forgets day=99;", "1").lost(0), 100);
        due("behind 101", singers("1", "forgets day=100;", "1").lost(0), NONE);
        due("never", singers("1", "forgets 0;", "1").lost(0), NONE);
        GapSongs x = singers("1", "forgets day=100;", "1");
        x.days(1);
        due("behind 100 from DAY 1", x.lost(0), 100);

        sentence("LEARNT: behind how many DAYS (0 to 100) one HAS a SONG first; none.");
        due("now", singers("1", "", "1").learnt(0, 0), 0);
        due("behind 1", singers("12", "seeks 1 0 0;forgets 0;", "_2", "-").learnt(1, 0), 1);
        due("behind 100", singers("12", "seeks 1 0 0;forgets day=99;", "12", "-").learnt(1, 0), 100);
        due("behind 101", singers("12", "seeks 1 0 0;forgets day=100;", "12", "-").learnt(1, 0), NONE);
        due("never", singers("12", "forgets 0;", "_2", "-").learnt(1, 0), NONE);
        GapSongs y = singers("12", "seeks 1 0 0;forgets day=100 and place=0;", "12", "-");
        y.days(1);
        due("behind 100 from DAY 1", y.learnt(1, 0), 100);
    }

    private static void mostSongs() {
        sentence("MOST SONGS then: who HAS most (of like ones the least; also if nobody HAS any); none.");
        String three = "song 1 2;song 3;song 4;person 0 0;person 0 0;person 0 0;";
        String rule = "forgets day=99 and note=4;";
        GapSongs x = of(three + "has 0 0 0;has 1 2 0;has 1 1 0;has 2 0 0;has 2 1 0;" + rule);
        due("of like ones", x.most(0), 1);
        due("behind 99", x.most(99), 1);
        due("behind 100", x.most(100), 2);
        due("nobody HAS any", of(three).most(0), 0);
        due("nobody HAS any then", of(three + "has 2 1 0;").most(1), 0);
        due("nobody", of("song 1;").most(100), NONE);
        due("without SONGS", of("person 0 0;person 0 0;").most(100), 0);
        due("the last one", of(three + "has 2 1 0;").most(0), 2);
    }

    private static void unlikeAndCommon() {
        sentence("UNLIKE: at how many places two who both HAVE a SONG (one with oneself, too) have other NOTES"
            + " (where neither has a GAP); none, if one hasn't it.");
        GapSongs x = singers("12345678", "", "12345678", "23456788", "_2345670", "1_______", "-");
        due("with oneself", x.both(0, 0, 0, 0), 0);
        due("7 places", x.both(0, 1, 0, 0), 7);
        due("a GAP and one place", x.both(0, 2, 0, 0), 1);
        due("a GAP and one place, the other way round", x.both(2, 0, 0, 0), 1);
        due("GAPS at all places that count", x.both(2, 3, 0, 0), 0);
        due("one NOTE", x.both(1, 3, 0, 0), 1);
        due("the first one hasn't it", x.both(4, 0, 0, 0), NONE);
        due("the other one hasn't it", x.both(0, 4, 0, 0), NONE);
        due("neither", x.both(4, 4, 0, 0), NONE);

        sentence("COMMON: the longest row of NOTES that both have in the same order, not at the same places perhaps"
            + " (GAPS left out).");
        due("with oneself", x.both(0, 0, 0, 1), 8);
        due("one place on", x.both(0, 1, 0, 1), 7);
        due("GAPS left out", x.both(2, 2, 0, 1), 7);
        due("none", x.both(2, 3, 0, 1), 0);
        due("the first one hasn't it", x.both(4, 0, 0, 1), NONE);
        due("the other one hasn't it", x.both(0, 4, 0, 1), NONE);
        GapSongs y = singers("1234", "", "1__4", "1214", "_2_1", "4331", "1234");
        due("GAPS between", y.both(0, 1, 0, 1), 2);
        due("GAPS are not in common", y.both(0, 2, 0, 1), 1);
        due("in the same order", y.both(4, 3, 0, 1), 1);
        due("not at the same places", y.both(1, 2, 0, 1), 2);
    }

    private static void toLearn() {
        sentence("TO LEARN: of whom one who hasn't a SONG should LEARN it now, so that it is most LIKE THE FIRST"
            + " (of like ones the least): whom; how LIKE; none.");
        // GAPS are filled with 9: 1 has 2 like THE FIRST, 2 and 4 have 3, 3 has no GAP
        GapSongs x = singers("1234", "fills 9;", "-", "12__", "_234", "1234", "123_");
        due("of like ones", x.toLearn(0, 0, 0), 2);
        due("how LIKE", x.toLearn(0, 0, 1), 3);
        x.giveUp(2, 0);
        due("the other one", x.toLearn(0, 0, 0), 4);
        x.giveUp(4, 0);
        due("whom", x.toLearn(0, 0, 0), 1);
        due("how LIKE", x.toLearn(0, 0, 1), 2);
        x.giveUp(1, 0);
        due("of one without a GAP", x.toLearn(0, 0, 0), NONE);
        due("of one without a GAP", x.toLearn(0, 0, 1), NONE);
        due("one HAS it", x.toLearn(3, 0, 0), NONE);
        GapSongs y = of("song 1 2;person 0 0;person 0 0;has 1 0 2;forgets day<2;fills 9;");
        y.hum(1, 0, 1, 7); // 1 7
        y.days(1);         // _ 7
        due("LIKE at no place: whom", y.toLearn(0, 0, 0), 1);
        due("LIKE at no place: how LIKE", y.toLearn(0, 0, 1), 0);
        due("a lesson LIKE at no place", y.lesson(0, 0), 1);
        due("one alone", of("song 1;person 0 0;").toLearn(0, 0, 0), NONE);
        due("the first one", singers("1234", "fills 9;", "_234", "12__", "-").toLearn(2, 0, 0), 0);
        due("the last one", singers("1234", "fills 9;", "-", "12__", "_234").toLearn(0, 0, 0), 2);
        GapSongs z = of("song 1 2;person 0 1;person 0 2;person 0 0;has 1 0 1;has 2 0 2;fills wit;");
        due("by the WIT of who LEARNS: whom", z.toLearn(0, 0, 0), 1);
        due("by the WIT of who LEARNS: how LIKE", z.toLearn(0, 0, 1), 2);
    }

    private static void nearest() {
        sentence("NEAREST: of those who HAVE a SONG the one whose UNLIKE with all others who do is least, all together"
            + " (of like ones the least): whom; how much; none.");
        due("nobody", singers("12", "", "-", "-").song(0, 3), NONE);
        due("nobody", singers("12", "", "-", "-").song(0, 4), NONE);
        due("without PEOPLE", of("song 1;").song(0, 4), NONE);
        GapSongs x = singers("123", "", "-", "123", "-");
        due("one alone", x.song(0, 3), 1);
        due("one alone", x.song(0, 4), 0);
        GapSongs y = singers("123", "", "-", "133", "124", "123");
        due("whom", y.song(0, 3), 3);
        due("how much", y.song(0, 4), 2);
        y.giveUp(3, 0);
        due("of like ones", y.song(0, 3), 1);
        due("how much", y.song(0, 4), 2);
        GapSongs z = singers("123", "", "123", "133", "124");
        due("the first one", z.song(0, 3), 0);
        due("how much", z.song(0, 4), 2);
    }

    /** 1 LEARNS of 0, 2 of 1 .. 6 of 5: each has a GAP on the DAY behind. */
    private static GapSongs chain() {
        GapSongs x = singers("12345678", "", "_2345678", "-", "-", "-", "-", "-", "-");
        for (int p = 1; p < 7; p++) {
            x.learn(p, 0, p - 1);
            x.days(1);
        }
        return x;
    }

    private static void taughtBy() {
        sentence("TAUGHT BY: whom one comes to from a PERSON from TEACHER to TEACHER of a SONG"
            + " (bits; oneself, too, if one comes round).");
        GapSongs x = chain();
        for (int p = 0; p < 7; p++) {
            due("TAUGHT BY of " + p, x.has(p, 0, 6), (1 << p) - 1);
        }
        x.giveUp(0, 0);
        x.learn(0, 0, 6);
        for (int p = 0; p < 7; p++) {
            due("TAUGHT BY of " + p + ", all round", x.has(p, 0, 6), 127);
        }
        GapSongs y = round();
        due("one of the round", y.has(0, 0, 6), 3);
        due("one beside the round", y.has(2, 0, 6), 3);
        due("who has no TEACHER", y.has(3, 0, 6), 0);

        sentence("PUPILS of one in a SONG: whose TEACHER one is (bits).");
        due("two PUPILS", y.has(1, 0, 4), 5);
        due("none", y.has(2, 0, 4), 0);
        GapSongs z = singers("12", "forgets 0;", "_2", "-", "-", "-", "-", "-", "-");
        for (int p = 1; p < 7; p++) {
            z.learn(p, 0, 0);
        }
        due("six PUPILS", z.has(0, 0, 4), 126);
        z.giveUp(0, 0);
        z.giveUp(6, 0);
        due("who HAVE it, or not", z.has(0, 0, 4), 126);
    }

    /** 0 and 1 LEARNT of each other, 2 of 1, and 3 of nobody. */
    private static GapSongs round() {
        GapSongs x = singers("1234", "", "_234", "-", "-", "-");
        x.learn(1, 0, 0);
        x.days(1);
        x.learn(2, 0, 1);
        x.giveUp(0, 0);
        x.learn(0, 0, 1);
        return x;
    }

    private static void generations() {
        sentence("GENERATION: how many TEACHERS there are one behind the other (0: nobody; as many as there are PEOPLE,"
            + " if it comes round somewhere).");
        GapSongs x = chain();
        for (int p = 0; p < 7; p++) {
            due("GENERATION of " + p, x.has(p, 0, 5), p);
        }
        x.giveUp(0, 0);
        x.learn(0, 0, 6);
        for (int p = 0; p < 7; p++) {
            due("GENERATION of " + p + ", all round", x.has(p, 0, 5), 7);
        }
        GapSongs y = round();
        due("one of the round", y.has(0, 0, 5), 4);
        due("one beside the round", y.has(2, 0, 5), 4);
        due("nobody", y.has(3, 0, 5), 0);
    }

    private static void lessons() {
        sentence("LESSONS: those who haven't a SONG LEARN it now, all at once, each of another one who HAS it with a GAP or more,"
            + " no two of one, as many as can, and of these ways that by which it is most LIKE THE FIRST, all together:"
            + " how many; how LIKE;");
        GapSongs x = singers("12", "", "_2", "12");
        due("all HAVE it", x.lessons(0, 0), 0);
        due("all HAVE it", x.lessons(0, 1), 0);
        due("nobody HAS it", singers("12", "", "-", "-").lessons(0, 0), 0);
        due("nobody HAS it", singers("12", "", "-", "-").lessons(0, 1), 0);
        due("without a GAP", singers("12", "", "12", "-").lessons(0, 0), 0);
        due("without PEOPLE", of("song 1;").lessons(0, 0), 0);
        GapSongs six = singers("12", "fills 1;", "-", "-", "-", "_2", "-", "-", "-");
        due("six of one", six.lessons(0, 0), 1);
        due("six of one", six.lessons(0, 1), 2);
        GapSongs one = singers("123", "fills 9;", "__3", "_2_", "1__", "-", "_23", "12_", "1__");
        due("one of six", one.lessons(0, 0), 1);
        due("one of six", one.lessons(0, 1), 2);
        due("of whom", one.lesson(3, 0), 4);
        // wits fit one place each: 0 of 3, 1 of 5, 2 of 4 is LIKE at all places
        GapSongs three = of("song 1 2 3;person 0 1;person 0 2;person 0 3;person 0 0;person 0 0;person 0 0;person 0 0;"
            + "has 3 0 1;has 4 0 4;has 5 0 2;has 6 0 0;fills wit;");
        due("how many", three.lessons(0, 0), 3);
        due("how LIKE", three.lessons(0, 1), 9);
        due("0 of 3", three.lesson(0, 0), 3);
        due("1 of 5", three.lesson(1, 0), 5);
        due("2 of 4", three.lesson(2, 0), 4);
        due("6 HAS it", three.lesson(6, 0), NONE);
        due("nothing has happened", three.song(0, 1), 120);
        // LIKE at no place counts as a lesson all the same
        GapSongs none = of("song 1 2;person 0 0;person 0 0;has 1 0 2;forgets day<2;fills 9;");
        none.hum(1, 0, 1, 7);
        none.days(1);
        due("how many", none.lessons(0, 0), 1);
        due("how LIKE", none.lessons(0, 1), 0);
        due("of whom", none.lesson(0, 0), 1);
        GapSongs gone = singers("12", "", "_2", "-");
        due("of whom", gone.lesson(1, 0), 0);
        due("how LIKE", gone.lessons(0, 1), 1);
        gone.giveUp(0, 0);
        due("of nobody any more", gone.lesson(1, 0), NONE);
        due("none any more", gone.lessons(0, 0), 0);
        due("LIKE at no place any more", gone.lessons(0, 1), 0);
    }

    private static void firstRow() {
        sentence("of whom one does: of like ones the first row (by who LEARNS: of whom; nobody behind all).");
        GapSongs x = singers("12", "fills 9;", "-", "_2", "-", "_2", "-");
        int[] want = {1, NONE, 3, NONE, NONE};
        for (int p = 0; p < 5; p++) {
            due("three of two, " + p, x.lesson(p, 0), want[p]);
        }
        GapSongs y = singers("12", "fills 9;", "_2", "-", "_2", "_2", "-");
        due("two of three, 1", y.lesson(1, 0), 0);
        due("two of three, 4", y.lesson(4, 0), 2);
        // the wit of 2 alone fills the GAP as it was: 2 LEARNS, though it stands behind 0 and 1
        GapSongs z = of("song 1 2;person 0 9;person 0 8;person 0 1;person 0 0;has 3 0 1;fills wit;");
        due("who is most LIKE ahead of the first row, 0", z.lesson(0, 0), NONE);
        due("who is most LIKE ahead of the first row, 1", z.lesson(1, 0), NONE);
        due("who is most LIKE ahead of the first row, 2", z.lesson(2, 0), 3);
    }

    private static void origin() {
        sentence("ORIGIN of one's SONG: the last one to whom one comes from TEACHER to TEACHER, who has none; none,"
            + " if one has no TEACHER, or comes round.");
        GapSongs x = chain();
        due("no TEACHER", x.of(0, 0, 0), NONE);
        for (int p = 1; p < 7; p++) {
            due("ORIGIN of " + p, x.of(p, 0, 0), 0);
        }
        x.giveUp(0, 0);
        x.learn(0, 0, 6);
        for (int p = 0; p < 7; p++) {
            due("ORIGIN of " + p + ", all round", x.of(p, 0, 0), NONE);
        }
        GapSongs y = round();
        due("one beside the round", y.of(2, 0, 0), NONE);
        due("who hasn't it", y.of(3, 0, 0), NONE);
    }

    private static void kept() {
        sentence("(If only DAYS go by, from now on:) KEPT behind so many DAYS (0 to 100): places of a SONG at which all"
            + " who HAVE it then have the NOTE of THE FIRST (bits; none, if nobody HAS it).");
        GapSongs x = singers("12345678", "forgets day=99 and place=7;", "12345678", "_2345678", "13345678", "-");
        due("now", x.kept(0, 0, 0), 252);
        due("behind 99", x.kept(0, 99, 0), 252);
        due("behind 100", x.kept(0, 100, 0), 124);
        illegal("behind 101", () -> x.kept(0, 101, 0));
        due("nobody", singers("12", "", "-").kept(0, 0, 0), NONE);
        due("nobody then", singers("1", "", "1").kept(0, 1, 0), NONE);
        due("all places", singers("12345678", "", "12345678").kept(0, 0, 0), 255);
        due("no place", singers("12", "", "1_", "_2").kept(0, 0, 0), 0);
        due("without PEOPLE", of("song 1;").kept(0, 100, 0), NONE);
    }

    private static void rarest() {
        sentence("RAREST then: the SONG that fewest HAVE, but somebody (of like ones the least); none.");
        String songs = "song 1 2;song 3 4;song 5 6;song 7;person 0 0;person 0 0;";
        GapSongs x = of(songs + "has 0 0 0;has 1 0 0;has 0 2 0;has 1 1 0;forgets day=99 and 4<note and place=0;");
        due("of like ones", x.later(0, 0), 1);
        GapSongs y = of(songs + "has 0 0 0;has 1 0 0;has 0 3 0;forgets day=99 and note=7;");
        due("behind 99", y.later(99, 0), 3);
        due("behind 100", y.later(100, 0), 0);
        due("nobody HAS any", of(songs).later(100, 0), NONE);
        due("without SONGS", of("person 0 0;").later(0, 0), NONE);
        String all = "";
        for (int p = 0; p < 7; p++) {
            all += "has " + p + " 1 0;";
        }
        due("all HAVE it", of("song 1;song 2;" + "person 0 0;".repeat(7) + all).later(0, 0), 1);
    }

    private static void taughtAndForgotten() {
        sentence("TAUGHT in so many DAYS (0 to 100): how often one LEARNS, all together;");
        String late = "seeks 1 0 0;seeks 2 0 1;forgets (day=98 or day=99) and place=0;";
        GapSongs x = singers("123", late, "123", "-", "-");
        due("in none", x.later(0, 1), 0);
        due("in 98", x.later(98, 1), 0);
        due("in 99", x.later(99, 1), 1);
        due("in 100", x.later(100, 1), 2);
        due("in 99, behind 100 were asked for", x.later(99, 1), 1);
        illegal("in 101", () -> x.later(101, 1));
        GapSongs w = singers("12", "seeks 1 0 0;seeks 2 0 0;forgets 0;", "_2", "-", "-");
        w.learn(1, 0, 0);
        due("an ACT isn't one of these DAYS", w.later(100, 1), 1);

        sentence("FORGOTTEN in them: how many NOTES become GAPS, all together (those by which one HAS a SONG no more, too).");
        due("in none", x.later(0, 2), 0);
        due("in 98", x.later(98, 2), 0);
        due("in 99", x.later(99, 2), 1);
        due("in 100", x.later(100, 2), 2);
        GapSongs y = singers("12", "forgets 1;", "12", "_2", "-");
        due("in 1", y.later(1, 2), 2);
        due("in 2", y.later(2, 2), 3);
        due("in 100", y.later(100, 2), 3);
        y.giveUp(0, 0);
        due("what is given UP isn't forgotten", y.later(100, 2), 1);

        sentence("READY then: who HAS a SONG with a GAP or more (bits).");
        GapSongs z = singers("12", "forgets day=99 and place=0;", "12", "_2", "-", "1_", "12", "-", "_2");
        due("now", z.kept(0, 0, 1), 74);
        due("behind 99", z.kept(0, 99, 1), 74);
        due("behind 100", z.kept(0, 100, 1), 83);
        due("nobody", singers("12", "", "-", "12").kept(0, 0, 1), 0);
    }

    private static void changesAndHighest() {
        GapSongs x = singers("11221199", "", "11221199", "_1_2__9_", "1_______", "11111111", "12121212", "0_22__0_",
            "-");
        int[] changes = {3, 2, 0, 0, 7, 2, NONE};
        int[] highest = {9, 9, 1, 1, 2, 2, NONE};
        sentence("CHANGES of one's SONG: how many of its NOTES are other than the one ahead of them"
            + " (GAPS left out; the first one isn't; none, if one hasn't it).");
        for (int p = 0; p < 7; p++) {
            due("CHANGES of " + p, x.of(p, 0, 1), changes[p]);
        }
        sentence("HIGHEST: the greatest NOTE that one has of it (none, if one hasn't it).");
        for (int p = 0; p < 7; p++) {
            due("HIGHEST of " + p, x.of(p, 0, 2), highest[p]);
        }
        due("0", singers("00", "", "_0").of(0, 0, 2), 0);
    }

    private static void agreed() {
        sentence("AGREED: the NOTE that most who HAVE a SONG have at a place now (of like ones the least); none.");
        GapSongs x = singers("19", "", "19", "29", "39", "29", "_9", "-", "_9");
        due("most", x.agreed(0, 0), 2);
        due("all", x.agreed(0, 1), 9);
        x.giveUp(1, 0);
        due("of like ones", x.agreed(0, 0), 1);
        x.giveUp(0, 0);
        due("of like ones", x.agreed(0, 0), 2);
        x.giveUp(2, 0);
        x.giveUp(3, 0);
        due("GAPS alone", x.agreed(0, 0), NONE);
        due("a NOTE of 0", singers("09", "", "09", "_9").agreed(0, 0), 0);
        due("nobody", singers("09", "", "-").agreed(0, 1), NONE);
        due("without PEOPLE", of("song 1;").agreed(0, 0), NONE);
    }
}
