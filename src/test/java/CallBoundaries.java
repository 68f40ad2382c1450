import java.util.Arrays;

/** The boundaries of the calls, promise by promise: what they answer at their ends, refuse, throw and leave alone. */
final class CallBoundaries extends Boundaries {
    private static final String NO_SUCH = "throws.NoSuchElementException";
    private static final String ILLEGAL = "throws.IllegalArgumentException";

    private CallBoundaries() {
    }

    static void run() {
        newObject();
        feed();
        marsh();
        marshGone();
        marshIllegal();
        fault();
        count();
        song();
        person();
        first();
        has();
        days();
        learn();
        seek();
        giveUp();
        hum();
        undo();
        then();
        note();
        sung();
        lostLearntMost();
        both();
        toLearn();
        lessons();
        hear();
        forget();
        otherwise();
        winters();
        game();
        years();
        of();
        kept();
        later();
        agreed();
        image();
        restore();
    }

    /**
     * Each argument beyond its ends makes the call throw NoSuchElementException, whatever the others are, and nothing
     * changes. Kinds: p PERSON, o PERSON or NONE, s SONG, l place in SONG 0, a digit so many whats, x any number.
     * The rows are arguments for THREE by which the call throws no NoSuchElementException.
     */
    private static void noSuch(String name, String kinds, int[]... rows) {
        GapSongs x = of(THREE);
        String before = all(x);
        for (int[] row : rows) {
            for (int i = 0; i < kinds.length(); i++) {
                char kind = kinds.charAt(i);
                int end = kind == 'p' || kind == 'o' ? 3 : kind == 's' ? 2 : kind == 'l' ? 4 : kind - '0';
                int[] beyond = {kind == 'o' ? -2 : -1, end, MANY, FEW};
                for (int k = 0; k < 4 && kind != 'x'; k++) {
                    int[] wrong = row.clone();
                    wrong[i] = beyond[k];
                    due(name + Arrays.toString(wrong), ask(x, name, wrong), NO_SUCH);
                }
            }
        }
        due("what is so behind all these", all(x), before);
        due("STATUS behind all these", x.count(9) + x.count(10) + x.count(11), 0);
    }

    private static int[] row(int... arguments) {
        return arguments;
    }

    /** Each of these calls of THREE throws IllegalArgumentException, and nothing changes. */
    private static void illegalAll(String name, int[]... rows) {
        GapSongs x = of(THREE);
        String before = all(x);
        for (int[] row : rows) {
            due(name + Arrays.toString(row), ask(x, name, row), ILLEGAL);
        }
        due("what is so behind all these", all(x), before);
        due("STATUS behind all these", x.count(9) + x.count(10) + x.count(11), 0);
    }

    private static void newObject() {
        sentence("The constants: `NONE = -1`: There is none; nobody; a GAP.");
        due("NONE", GapSongs.NONE, -1);

        sentence("No SONGS, nobody.");
        GapSongs x = new GapSongs();
        for (int what = 0; what < 12; what++) {
            due("count(" + what + ")", x.count(what), 0);
        }
        due("fault()", x.fault(), NONE);
        missing("song(0, 0)", () -> x.song(0, 0));
        missing("person(0, 0)", () -> x.person(0, 0));
        missing("has(0, 0, 0)", () -> x.has(0, 0, 0));
        missing("seek(0, 0, NONE)", () -> x.seek(0, 0, NONE) ? 1 : 0);
        due("most(0)", x.most(0), NONE);
        due("later(0, 0)", x.later(0, 0), NONE);
        due("undo()", x.undo(), NONE);
        due("restore()", x.restore(), false);
    }

    private static void feed() {
        sentence("Twenty bytes come behind the tape, of each number the highest first: how many it has;");
        GapSongs x = new GapSongs();
        due("feed", x.feed(0x736f6e67, 0x20312032, 0x20332034, 0x20352036, 0x20372038), 20); // song 1 .. 8
        due("feed behind it", x.feed(0x3b706572, 0x736f6e20, 0x3820393b, 0xFFFFFFFF, FEW), 40);
        due("count(8)", x.count(8), 40);
        due("marsh", x.marsh(32), 0);
        due("the first NOTE", x.first(0, 0), 1);
        due("the last NOTE", x.first(0, 7), 8);
        due("MEMORY", x.person(0, 0), 8);
        due("WIT", x.person(0, 1), 9);

        sentence("NONE, and none come, if it would have more than 700.");
        GapSongs y = new GapSongs();
        for (int i = 1; i <= 34; i++) {
            y.feed(0x20202020, 0x20202020, 0x20202020, 0x20202020, 0x20202020);
        }
        due("700", y.feed(0x20202020, 0x20202020, 0x20202020, 0x2020736f, 0x6e672037), 700); // song 7
        due("720", y.feed(0x21212121, 0x21212121, 0x21212121, 0x21212121, 0x21212121), NONE);
        due("720 again", y.feed(0, 0, 0, 0, 0), NONE);
        due("count(8)", y.count(8), 700);
        illegal("marsh(701)", () -> y.marsh(701));
        due("none came", y.marsh(700), 1);
        due("it ends too soon", y.fault(), 700);
        due("room again", y.feed(0, 0, 0, 0, 0), 20);
    }

    private static void marsh() {
        sentence("The tape's first n bytes (it is empty then) are a MARSH, all anew: 0, or the FAULT (all stays).");
        GapSongs x = of(THREE);
        x.days(3);
        feedText(x, "song 7;person 1 1;!!");
        due("the first 18 bytes", x.marsh(18), 0);
        due("the tape is empty", x.count(8), 0);
        due("SONGS", x.count(0), 1);
        due("NOTES", x.song(0, 0), 1);
        due("PEOPLE", x.count(1), 1);
        due("the DAY", x.count(2), 0);
        due("who HAS it", x.song(0, 1), 0);
        due("who SEEKS", x.count(5), 0);
        due("no byte at all", x.marsh(0), 0);
        due("no SONGS", x.count(0) + x.count(1), 0);
        GapSongs y = of("song 1 2;person 0 0;person 0 0;has 0 0 0;forgets 0;fills 7;");
        due("another text", tell(y, "song 1 2;person 0 0;person 0 0;has 0 0 1;"), 0);
        due("no FORGETS", y.then(0, 0, 1, 0), 0);
        y.learn(1, 0, 0);
        due("no FILLS", sungBy(y, 1, 0), "02");
        for (int i = 3; i < 9; i++) {
            String rules = "forgets place=" + i % 2 + "+0".repeat(99) + ";fills " + i + "+0".repeat(99) + ";";
            due("rules anew", tell(y, "song 1 2 3;person 0 0;person 0 0;has 0 0 4;" + rules), 0);
            y.learn(1, 0, 0);
            due("FILLS anew", sungBy(y, 1, 0), "12" + i);
            due("FORGETS anew", y.note(0, 0, i % 2, 1), NONE);
            due("FORGETS anew", y.note(0, 0, 1 - i % 2, 1), 2 - i % 2);
        }
        cut("songs", 4, 1, 4);
        cut("song 12;", 6, 1, 6);
        cut("song 1  ;", 7, 1, 7);
        cut("song 1;x", 7, 0, NONE);
        cut("forgets daya;", 11, 1, 11);
        cut("forgets 12345;", 12, 1, 12);
        GapSongs z = of(THREE);
        z.days(3);
        z.hear(0, 0, 0, 0, NONE);
        z.image();
        z.days(1);
        String before = all(z);
        feedText(z, "song 7;person 1 1;!!");
        due("all 20 bytes", z.marsh(20), 1);
        due("all stays", all(z), before);
        due("the tape is empty", z.count(8), 0);
        due("MEMORY stays", z.person(2, 0), 2);
        due("the image stays", z.restore(), true);
        due("the image's DAY", z.count(2), 3);
        due("ACTS stay", z.undo(), 0);
    }

    /** What stands on the tape behind the first n bytes is no part of the text. */
    private static void cut(String text, int n, int kind, int place) {
        GapSongs x = new GapSongs();
        feedText(x, text);
        due("the first " + n + " of " + text, x.marsh(n), kind);
        due("fault() of the first " + n + " of " + text, x.fault(), place);
    }

    private static void marshGone() {
        sentence("ACTS, what is HEARD, the image are gone (STATUS stays).");
        GapSongs x = of(THREE);
        x.days(1);
        x.hear(0, 0, 0, 0, NONE);
        x.image();
        x.days(0);
        x.hear(0, 0, 0, 21, 0);
        tell(x, "!");
        due("marsh", tell(x, THREE), 0);
        due("ACTS", x.count(6), 0);
        due("undo()", x.undo(), NONE);
        due("HEARD", x.count(7), 0);
        due("nothing HEARD is so", x.otherwise(2), 1);
        due("the image", x.restore(), false);
        for (int what = 9; what < 12; what++) {
            due("count(" + what + ")", x.count(what), 1);
        }
        due("TEACHERS", x.has(2, 0, 3), NONE);
    }

    private static void marshIllegal() {
        sentence("IllegalArgumentException: the tape has not so many, n below 0 (nothing changes).");
        GapSongs x = of(THREE);
        illegal("marsh(1) of an empty tape", () -> x.marsh(1));
        tell(x, "?");
        due("fault()", x.fault(), 0);
        feedText(x, "song 7;");
        String before = all(x);
        for (int n : new int[] {21, 700, 701, MANY, -1, FEW}) {
            illegal("marsh(" + n + ")", () -> x.marsh(n));
        }
        due("what is so", all(x), before);
        due("the tape", x.count(8), 20);
        due("the FAULT's place", x.fault(), 0);
        due("STATUS 0", x.count(9), 1);
        due("marsh(7)", x.marsh(7), 0);
        due("as many as there are", tell(x, "song 1 2 3 4 5 6 7;\n"), 0);
    }

    private static void fault() {
        sentence("The place of the latest marsh()'s FAULT; NONE without.");
        GapSongs x = new GapSongs();
        due("without marsh()", x.fault(), NONE);
        tell(x, "song 1;?");
        due("a FAULT", x.fault(), 7);
        tell(x, "?");
        due("another one", x.fault(), 0);
        x.days(0);
        due("behind other calls", x.fault(), 0);
        tell(x, "song 1;");
        due("without a FAULT", x.fault(), NONE);
        tell(x, " ".repeat(699) + "?");
        due("the last byte", x.fault(), 699);
        tell(x, " ".repeat(694) + "song 1");
        due("behind the last byte", x.fault(), 700);
    }

    private static void count() {
        sentence("0 SONGS, 1 PEOPLE, 2 the DAY, 3 SONGS that nobody HAS (bits), 4 GAPS of all in what they HAVE,"
            + " 5 who SEEKS (bits), 6 ACTS that are kept, 7 HEARD, 8 bytes of the tape, 9 to 11 STATUS 0 to 2.");
        String full = "song 1 2 3 4 5 6 7 8;song 1;song 2;song 3;song 4;" + "person 9 9;".repeat(7);
        for (int p = 0; p < 7; p++) {
            full += "has " + p + " 0 127;seeks " + p + " 4 " + (p + 1) % 7 + ";";
        }
        GapSongs x = of(full);
        int[] want = {5, 7, 0, 30, 49, 127, 0, 0, 0, 0, 0, 0};
        for (int what = 0; what < 12; what++) {
            due("count(" + what + ")", x.count(what), want[what]);
        }
        x.days(1);
        x.seek(6, 0, NONE);
        x.hear(0, 0, 0, 0, 0);
        x.hear(0, 0, 0, 0, 11);
        x.days(21);
        x.days(22);
        tell(x, "song");
        tell(x, "song");
        tell(x, "song");
        x.feed(0, 0, 0, 0, 0);
        int[] then = {5, 7, 1, 31, 0, 63, 2, 1, 20, 3, 2, 1};
        for (int what = 0; what < 12; what++) {
            due("count(" + what + ") then", x.count(what), then[what]);
        }
        sentence("NoSuchElementException: another what.");
        for (int what : new int[] {-1, 12, MANY, FEW}) {
            missing("count(" + what + ")", () -> x.count(what));
        }
    }

    private static void song() {
        sentence("Of a SONG: 0 how many NOTES, 1 who HAS it (bits), 2 who HAS it without GAPS (bits), 3 NEAREST (NONE),"
            + " 4 its UNLIKE with all (NONE: nobody HAS it).");
        GapSongs x = of("song 1 2 3;song 4;" + "person 0 0;".repeat(7)
            + "has 0 0 1;has 6 0 0;has 5 0 6;has 2 0 4;");
        x.hum(0, 0, 0, 7); // 7 2 3
        x.hum(2, 0, 2, 7); // 1 2 7
        int[] want = {3, 101, 69, 5, 1};
        int[] none = {1, 0, 0, NONE, NONE};
        for (int what = 0; what < 5; what++) {
            due("song(0, " + what + ")", x.song(0, what), want[what]);
            due("song(1, " + what + ")", x.song(1, what), none[what]);
        }
        sentence("NoSuchElementException: no such SONG (as everywhere), what.");
        noSuch("song", "s5", row(0, 0), row(1, 4));
    }

    private static void person() {
        sentence("Of a PERSON: 0 MEMORY, 1 WIT, 2 SONGS one HAS (bits), 3 the SONG one SEEKS (NONE), 4 of whom (NONE).");
        GapSongs x = of("song 1;song 2;song 3;song 4;song 5;" + "person 0 9;".repeat(6) + "person 9 0;"
            + "has 6 0 0;has 6 4 0;has 6 2 1;seeks 6 4 5;seeks 5 0 6;");
        int[][] want = {{0, 9, 0, NONE, NONE}, {0, 9, 0, 0, 6}, {9, 0, 17, 4, 5}};
        for (int what = 0; what < 5; what++) {
            due("person(0, " + what + ")", x.person(0, what), want[0][what]);
            due("person(5, " + what + ")", x.person(5, what), want[1][what]);
            due("person(6, " + what + ")", x.person(6, what), want[2][what]);
        }
        sentence("NoSuchElementException: no such PERSON (as everywhere), what.");
        noSuch("person", "p5", row(0, 0), row(2, 4));
    }

    private static void first() {
        sentence("The NOTE that THE FIRST has at a place.");
        GapSongs x = of("song 0 1 2 3 4 5 6 9;song 8;person 0 0;has 0 0 0;has 0 1 0;");
        x.days(20);
        for (int place = 0; place < 8; place++) {
            due("first(0, " + place + ")", x.first(0, place), place == 7 ? 9 : place);
        }
        due("first(1, 0)", x.first(1, 0), 8);
        sentence("NoSuchElementException: also no such place (0 to its NOTES less 1; as everywhere).");
        missing("first(0, 8)", () -> x.first(0, 8));
        missing("first(0, -1)", () -> x.first(0, -1));
        missing("first(1, 1)", () -> x.first(1, 1));
        missing("first(1, 7)", () -> x.first(1, 7));
        noSuch("first", "sl", row(0, 0), row(0, 3));
    }

    private static void has() {
        sentence("Of a PERSON and a SONG: 0 whether one HAS it (1), 1 GAPS (bits by places; 0: one hasn't it),"
            + " 2 how LIKE THE FIRST (0: one hasn't it), 3 the TEACHER (NONE), 4 PUPILS (bits), 5 GENERATION, 6 TAUGHT BY (bits).");
        GapSongs x = singers("12345678", "forgets 0;", "_______8", "-", "12345678", "-");
        x.learn(1, 0, 0); // 0 0 0 0 0 0 0 8
        int[][] want = {{1, 127, 1, NONE, 2, 0, 0}, {1, 0, 1, 0, 0, 1, 1}, {1, 0, 8, NONE, 0, 0, 0}, {0, 0, 0, NONE, 0, 0, 0}};
        for (int p = 0; p < 4; p++) {
            for (int what = 0; what < 7; what++) {
                due("has(" + p + ", 0, " + what + ")", x.has(p, 0, what), want[p][what]);
            }
        }
        sentence("NoSuchElementException: also another what.");
        noSuch("has", "ps7", row(0, 0, 0), row(2, 1, 6));
    }

    private static void days() {
        sentence("DAYS go by: the DAY. NONE (STATUS 1): not 1 to 20, it would be above 9999.");
        GapSongs x = of(THREE);
        due("days(1)", x.days(1), 1);
        due("days(20)", x.days(20), 21);
        for (int many : new int[] {0, 21, -1, MANY, FEW}) {
            GapSongs y = of(THREE);
            refused(y, "-1", 1, "days", many);
            due("no ACT", y.undo(), NONE);
        }
        GapSongs z = new GapSongs();
        for (int i = 0; i < 499; i++) {
            z.days(20);
        }
        due("10000", z.days(20), NONE);
        due("9998", z.days(18), 9998);
        due("10000", z.days(2), NONE);
        due("9999", z.days(1), 9999);
        due("10000", z.days(1), NONE);
        due("STATUS 1", z.count(10), 3);
        due("the DAY", z.count(2), 9999);
        due("undo()", z.undo(), 39);
        due("9999 again", z.days(1), 9999);
    }

    private static void learn() {
        sentence("LEARNS: how LIKE THE FIRST it is then.");
        due("all", singers("12", "fills 1;", "_2", "-").learn(1, 0, 0), 2);
        due("some", singers("12", "fills 9;", "_2", "-").learn(1, 0, 0), 1);
        GapSongs x = of("song 1 2;person 0 0;person 0 0;has 0 0 2;forgets 1;fills 9;");
        x.hum(0, 0, 1, 7);
        x.days(1); // _ 7
        due("no NOTE", x.learn(1, 0, 0), 0);

        sentence("NONE (STATUS 1): one HAS it, the other one hasn't it, or without a GAP.");
        refused(of(THREE), "-1", 1, "learn", 0, 0, 1);
        refused(of(THREE), "-1", 1, "learn", 2, 1, 1);
        refused(of(THREE), "-1", 1, "learn", 2, 0, 0);
        refused(of(THREE), "-1", 1, "learn", 2, 0, 2);
        refused(of(THREE), "-1", 1, "learn", 1, 0, 1);
        noSuch("learn", "psp", row(2, 0, 1), row(0, 0, 1));
    }

    private static void seek() {
        sentence("SEEKS: true. False (STATUS 1): it is so already, both are one.");
        GapSongs x = of(THREE);
        lookFar(x);
        due("as it is already, though not in 100 DAYS", x.seek(2, 0, 1), false);
        due("seek(0, 1, 2)", x.seek(0, 1, 2), true);
        due("seek(0, 1, 1)", x.seek(0, 1, 1), true);
        due("seek(0, 0, 1)", x.seek(0, 0, 1), true);
        refused(of(THREE), "false", 1, "seek", 2, 0, 1);
        refused(of(THREE), "false", 1, "seek", 2, 0, 2);
        refused(of(THREE), "false", 1, "seek", 0, 0, 0);
        refused(of(THREE), "false", 1, "seek", 0, 0, NONE);

        sentence("NoSuchElementException: no such PERSON (the other one may be NONE: one SEEKS nothing then,"
            + " and the SONG may be any number); no such SONG, if the other one isn't NONE.");
        for (int song : new int[] {0, 1, 2, NONE, MANY, FEW}) {
            GapSongs y = of(THREE);
            due("seek(2, " + song + ", NONE)", y.seek(2, song, NONE), true);
            due("what one SEEKS", y.person(2, 3), NONE);
            due("of whom", y.person(2, 4), NONE);
            due("so already", y.seek(2, song, NONE), false);
        }
        noSuch("seek", "pso", row(2, 0, 0), row(2, 0, 1));
        noSuch("seek", "pxx", row(0, 0, NONE), row(0, 9, NONE));
    }

    private static void giveUp() {
        sentence("UP: how many GAPS one had.");
        GapSongs x = singers("12345678", "", "12345678", "_______8", "1______8", "-");
        due("none", x.giveUp(0, 0), 0);
        due("7", x.giveUp(1, 0), 7);
        due("6", x.giveUp(2, 0), 6);
        sentence("NONE (STATUS 1): one hasn't it.");
        refused(of(THREE), "-1", 1, "giveUp", 2, 0);
        refused(of(THREE), "-1", 1, "giveUp", 1, 1);
        noSuch("giveUp", "ps", row(0, 0), row(2, 0));
    }

    private static void hum() {
        sentence("HUMMED: true. False (STATUS 1): one hasn't it, there is no GAP, note not 0 to 9.");
        for (int note = 0; note <= 9; note++) {
            GapSongs x = of(THREE);
            due("hum", x.hum(1, 0, 1, note), true);
            due("the NOTE", x.note(1, 0, 1, 0), note);
        }
        refused(of(THREE), "false", 1, "hum", 2, 0, 0, 5);
        refused(of(THREE), "false", 1, "hum", 1, 0, 0, 5);
        refused(of(THREE), "false", 1, "hum", 0, 0, 3, 4);
        for (int note : new int[] {-1, 10, 15, 16, MANY, FEW}) {
            refused(of(THREE), "false", 1, "hum", 1, 0, 1, note);
        }
        noSuch("hum", "pslx", row(1, 0, 1, 5), row(2, 0, 3, 10));
    }

    private static void undo() {
        sentence("The last ACT is UNDONE: how many are left. NONE: there is none.");
        GapSongs x = of(THREE);
        refused(x, "-1", NONE, "undo");
        x.days(1);
        x.days(2);
        due("one left", x.undo(), 1);
        due("the DAY", x.count(2), 1);
        due("none left", x.undo(), 0);
        due("the DAY", x.count(2), 0);
        due("there is none", x.undo(), NONE);
        x.days(21);
        due("what is refused is no ACT", x.undo(), NONE);
    }

    private static void then() {
        sentence("THEN: whether one HAS it (what 0; 1), GAPS (1: how many; 0, if one hasn't it), how LIKE THE FIRST (2; 0).");
        GapSongs x = singers("12345678", "", "12345678", "-");
        int[][] want = {{1, 0, 8}, {1, 7, 1}, {0, 0, 0}};
        for (int what = 0; what < 3; what++) {
            due("now, what " + what, x.then(0, 0, 0, what), want[0][what]);
            due("behind 7, what " + what, x.then(0, 0, 7, what), want[1][what]);
            due("behind 8, what " + what, x.then(0, 0, 8, what), want[2][what]);
            due("who hasn't it, what " + what, x.then(1, 0, 0, what), want[2][what]);
        }
        sentence("NoSuchElementException: also another what. IllegalArgumentException (behind that): not 0 to 100.");
        noSuch("then", "psx3", row(0, 0, 0, 0), row(2, 1, 100, 2), row(0, 0, 101, 0), row(0, 0, -1, 2));
        illegalAll("then", row(0, 0, 101, 0), row(0, 0, -1, 1), row(2, 1, MANY, 2), row(0, 0, FEW, 0));
    }

    private static void note() {
        sentence("WHICH NOTE; NONE: a GAP, one hasn't it.");
        GapSongs x = singers("09", "", "0_", "-");
        due("a NOTE of 0", x.note(0, 0, 0, 0), 0);
        due("a GAP", x.note(0, 0, 1, 0), NONE);
        due("one hasn't it", x.note(1, 0, 0, 0), NONE);
        due("one HAS it no more", x.note(0, 0, 0, 1), NONE);
        sentence("IllegalArgumentException (behind NoSuchElementException): not 0 to 100.");
        noSuch("note", "pslx", row(0, 0, 0, 0), row(2, 0, 3, 100), row(0, 0, 0, 101), row(0, 0, 0, -1));
        illegalAll("note", row(0, 0, 0, 101), row(0, 0, 0, -1), row(2, 0, 3, MANY), row(0, 0, 0, FEW));
    }

    private static void sung() {
        sentence("WHOLE (what 0; bits), SUNG (1; bits).");
        GapSongs x = singers("12", "forgets 0;", "12", "_2", "-");
        due("WHOLE", x.sung(0, 0, 0), 1);
        due("SUNG", x.sung(0, 0, 1), 3);
        sentence("NoSuchElementException: also another what. IllegalArgumentException (behind that): not 0 to 100.");
        noSuch("sung", "sx2", row(0, 0, 0), row(1, 100, 1), row(0, 101, 0), row(0, -1, 1));
        illegalAll("sung", row(0, 101, 0), row(0, -1, 1), row(1, MANY, 0), row(1, FEW, 1));
    }

    private static void lostLearntMost() {
        sentence("LOST; NONE: none.");
        due("lost", singers("1", "", "1").lost(0), 1);
        due("none", singers("1", "forgets 0;", "1").lost(0), NONE);
        noSuch("lost", "s", row(0));
        sentence("LEARNT; NONE: none.");
        due("learnt", singers("12", "seeks 1 0 0;", "12", "-").learnt(1, 0), 1);
        due("none", singers("1", "", "1", "-").learnt(1, 0), NONE);
        noSuch("learnt", "ps", row(0, 0), row(2, 1));
        sentence("MOST SONGS; NONE: nobody. IllegalArgumentException: not 0 to 100.");
        due("most(0)", of(THREE).most(0), 0);
        due("nobody", of("song 1;").most(0), NONE);
        illegalAll("most", row(101), row(-1), row(MANY), row(FEW));
        illegal("of nobody", () -> new GapSongs().most(101));
    }

    private static void both() {
        sentence("UNLIKE (what 0), COMMON (1); NONE: one hasn't it. NoSuchElementException: also another what.");
        GapSongs x = singers("123", "", "123", "321", "-");
        due("UNLIKE", x.both(0, 1, 0, 0), 2);
        due("COMMON", x.both(0, 1, 0, 1), 1);
        due("one hasn't it", x.both(0, 2, 0, 0), NONE);
        due("one hasn't it", x.both(2, 0, 0, 1), NONE);
        noSuch("both", "pps2", row(0, 1, 0, 0), row(2, 2, 1, 1));
    }

    private static void toLearn() {
        sentence("TO LEARN: whom (what 0), how LIKE (1); NONE: none, one HAS it. NoSuchElementException: also another what.");
        GapSongs x = of(THREE);
        due("whom", x.toLearn(2, 0, 0), 1);
        due("how LIKE", x.toLearn(2, 0, 1), 3);
        due("one HAS it", x.toLearn(0, 0, 0), NONE);
        due("one HAS it", x.toLearn(0, 0, 1), NONE);
        x.giveUp(1, 0);
        due("none", x.toLearn(2, 0, 0), NONE);
        due("none", x.toLearn(2, 0, 1), NONE);
        noSuch("toLearn", "ps2", row(2, 0, 0), row(0, 1, 1));
    }

    private static void lessons() {
        sentence("LESSONS: how many (what 0), how LIKE (1). NoSuchElementException: also another what.");
        GapSongs x = of(THREE);
        due("how many", x.lessons(0, 0), 1);
        due("how LIKE", x.lessons(0, 1), 3);
        noSuch("lessons", "s2", row(0, 0), row(1, 1));
        sentence("LESSONS: of whom one LEARNS; NONE: of nobody, one HAS it.");
        due("of whom", x.lesson(2, 0), 1);
        due("one HAS it", x.lesson(0, 0), NONE);
        due("of nobody", x.lesson(2, 1), NONE);
        noSuch("lesson", "ps", row(2, 0), row(0, 1));
    }

    private static void hear() {
        sentence("HEARD: how much is. NONE (STATUS 2): there are 8, not 0 to 20, not NONE to 9.");
        GapSongs x = of(THREE);
        int[][] good = {{0, 0, 0, 0, NONE}, {2, 0, 3, 20, 9}, {1, 1, 1, 1, 0}};
        for (int i = 1; i <= 8; i++) {
            int[] g = good[i % 3];
            due("hear " + i, x.hear(g[0], g[1], g[2], g[3], g[4]), i);
        }
        refused(x, "-1", 2, "hear", 0, 0, 0, 0, 0);
        for (int days : new int[] {-1, 21, MANY, FEW}) {
            refused(of(THREE), "-1", 2, "hear", 0, 0, 0, days, 0);
        }
        for (int note : new int[] {-2, 10, MANY, FEW}) {
            refused(of(THREE), "-1", 2, "hear", 0, 0, 0, 0, note);
        }
        sentence("NoSuchElementException (ahead): no such PERSON, SONG, place.");
        noSuch("hear", "pslxx", row(0, 0, 0, 0, 0), row(2, 0, 3, 21, 0), row(2, 0, 3, 0, 10));
        missing("hear of nobody, though there are 8", () -> x.hear(3, 0, 0, 0, 0));
    }

    private static void forget() {
        sentence("All that is HEARD is forgotten.");
        GapSongs x = of(THREE);
        for (int i = 0; i < 8; i++) {
            x.hear(0, 0, 0, 0, 9);
        }
        due("not so", x.otherwise(2), 0);
        x.forget();
        due("HEARD", x.count(7), 0);
        due("nothing", x.otherwise(2), 1);
        due("hear", x.hear(0, 0, 0, 0, 1), 1);
        x.forget();
        x.forget();
        due("HEARD", x.count(7), 0);
    }

    private static void otherwise() {
        sentence("OTHERWISE: how many (what 0), the first (1; NONE: none), whether without (2).");
        GapSongs x = of(THREE);
        due("how many", x.otherwise(0), 27);
        due("the first", x.otherwise(1), 0);
        due("without", x.otherwise(2), 1);
        x.hear(0, 0, 0, 0, 9);
        due("how many", x.otherwise(0), 0);
        due("none", x.otherwise(1), NONE);
        due("without", x.otherwise(2), 0);
        sentence("NoSuchElementException: another what.");
        noSuch("otherwise", "3", row(0));
        missing("of nobody", () -> new GapSongs().otherwise(3));
        sentence("HEAR NEXT (what 0; NONE), how many (1; 0: none).");
        due("none", x.ask(0), NONE);
        due("none", x.ask(1), 0);
        x.forget();
        due("who: 0, 1, 2 or 3 GAPS of 0, and of 2", x.ask(0), 0);
        due("how many", x.ask(1), 4);
        sentence("NoSuchElementException: another what.");
        noSuch("ask", "2", row(0));
        missing("of nobody", () -> new GapSongs().ask(2));
    }

    private static void winters() {
        sentence("WINTERS. IllegalArgumentException (behind NoSuchElementException): days, tenths.");
        GapSongs x = of(THREE);
        due("winters(0, 0, 1, 0)", x.winters(0, 0, 1, 0), 0);
        due("winters(0, 0, 1, 10)", x.winters(0, 0, 1, 10), 10);
        due("winters(0, 0, 5, 10)", x.winters(0, 0, 5, 10), 100000);
        noSuch("winters", "psxx", row(0, 0, 1, 0), row(2, 1, 5, 10), row(0, 0, 0, 5), row(0, 0, 5, 11), row(0, 0, 6, -1));
        illegalAll("winters", row(0, 0, 0, 5), row(0, 0, 6, 5), row(0, 0, 1, -1), row(0, 0, 1, 11),
            row(2, 1, MANY, 5), row(0, 0, FEW, 5), row(0, 0, 5, MANY), row(0, 0, 5, FEW));
    }

    private static void game() {
        sentence("A GAME: how many couples rest (what 0), the first (1; NONE: none); NONE for both, if one hasn't it.");
        GapSongs x = of(THREE);
        due("how many", x.game(0, 1, 0, 0), 2);
        due("the first", x.game(0, 1, 0, 1), 0);
        for (int what = 0; what < 2; what++) {
            due("the first one hasn't it", x.game(2, 0, 0, what), NONE);
            due("the other one hasn't it", x.game(0, 2, 0, what), NONE);
            due("neither HAS it", x.game(1, 2, 1, what), NONE);
        }
        sentence("NoSuchElementException: also another what. IllegalArgumentException (behind that): both are one.");
        noSuch("game", "pps2", row(0, 1, 0, 0), row(2, 0, 1, 1), row(2, 2, 0, 0));
        illegalAll("game", row(0, 0, 0, 0), row(2, 2, 0, 1), row(1, 1, 1, 0));
        missing("game(3, 3, 0, 0)", () -> x.game(3, 3, 0, 0));
        missing("game(0, 0, 2, 0)", () -> x.game(0, 0, 2, 0));
        missing("game(0, 0, 0, 2)", () -> x.game(0, 0, 0, 2));
    }

    private static void years() {
        sentence("YEARS: how often (what 0), GAPS (1), how many SONGS (2).");
        GapSongs x = of(THREE);
        int[] now = {0, 2, 0};
        for (int what = 0; what < 3; what++) {
            due("years(7, 0, " + what + ")", x.years(7, 0, what), now[what]);
        }
        sentence("NoSuchElementException: another what. IllegalArgumentException (behind that): n.");
        noSuch("years", "xx3", row(0, 0, 0), row(MANY, 100, 2), row(FEW, 101, 0), row(5, -1, 1));
        illegalAll("years", row(0, 101, 0), row(0, -1, 1), row(0, MANY, 2), row(0, FEW, 0));
        missing("of nobody", () -> new GapSongs().years(0, 101, 3));
        illegal("of nobody", () -> new GapSongs().years(0, 101, 2));
    }

    private static void of() {
        sentence("ORIGIN (what 0), CHANGES (1), HIGHEST (2); NONE: none. NoSuchElementException: also another what.");
        GapSongs x = of(THREE);
        int[][] want = {{NONE, 3, 4}, {NONE, 2, 4}, {NONE, NONE, NONE}};
        for (int p = 0; p < 3; p++) {
            for (int what = 0; what < 3; what++) {
                due("of(" + p + ", 0, " + what + ")", x.of(p, 0, what), want[p][what]);
            }
        }
        x.learn(2, 0, 1);
        due("ORIGIN", x.of(2, 0, 0), 1);
        noSuch("of", "ps3", row(0, 0, 0), row(2, 1, 2));
    }

    private static void kept() {
        sentence("KEPT (what 0; bits, NONE), READY (1; bits).");
        GapSongs x = of(THREE);
        due("KEPT", x.kept(0, 0, 0), 13);
        due("KEPT of nobody", x.kept(0, 100, 0), NONE);
        due("READY", x.kept(0, 0, 1), 2);
        due("nobody READY", x.kept(0, 100, 1), 0);
        sentence("NoSuchElementException: also another what. IllegalArgumentException (behind that): not 0 to 100.");
        noSuch("kept", "sx2", row(0, 0, 0), row(1, 100, 1), row(0, 101, 0), row(0, -1, 1));
        illegalAll("kept", row(0, 101, 0), row(0, -1, 1), row(1, MANY, 0), row(1, FEW, 1));
    }

    private static void later() {
        sentence("RAREST (what 0; NONE), TAUGHT (1), FORGOTTEN (2).");
        GapSongs x = of(THREE);
        due("RAREST", x.later(0, 0), 1);
        due("none", x.later(100, 0), NONE);
        due("TAUGHT", x.later(100, 1), 1);
        due("FORGOTTEN", x.later(100, 2), 12);
        sentence("NoSuchElementException: another what. IllegalArgumentException (behind that): not 0 to 100.");
        noSuch("later", "x3", row(0, 0), row(100, 2), row(101, 0), row(-1, 1));
        illegalAll("later", row(101, 0), row(-1, 1), row(MANY, 2), row(FEW, 0));
    }

    private static void agreed() {
        sentence("AGREED; NONE: none.");
        GapSongs x = of(THREE);
        due("agreed(0, 3)", x.agreed(0, 3), 4);
        due("none", x.agreed(1, 0), NONE);
        noSuch("agreed", "sl", row(0, 0), row(0, 3));
        missing("agreed(1, 2)", () -> x.agreed(1, 2));
    }

    private static void image() {
        sentence("The DAY, what all have of SONGS, TEACHERS, what all SEEK, ACTS and what is HEARD are kept as an image,"
            + " in place of another one.");
        GapSongs x = of(THREE);
        x.image();
        x.days(1);
        String behindOne = all(x);
        x.seek(1, 1, 0);
        String behindTwo = all(x);
        x.hear(0, 0, 0, 0, NONE);
        String then = all(x);
        x.image();
        due("nothing changes by it", all(x), then);
        x.hum(0, 0, 0, 9);
        x.giveUp(2, 0);
        x.learn(2, 0, 1);
        x.days(20);
        x.hear(1, 0, 0, 0, 5);
        due("restore()", x.restore(), true);
        due("the later image", all(x), then);
        x.forget();
        x.undo();
        x.undo();
        x.giveUp(0, 0);
        x.hum(1, 0, 1, 9);
        x.hear(0, 0, 0, 0, 9);
        due("restore()", x.restore(), true);
        due("the later image", all(x), then);
        x.forget();
        due("what was HEARD alone is gone", all(x), behindTwo);
        due("the last of its ACTS", x.undo(), 1);
        due("ahead of it", all(x), behindOne);
        due("the first of its ACTS", x.undo(), 0);
        due("ahead of all", x.count(4), 2);
    }

    private static void restore() {
        sentence("They are as the image again: true. False: there is none.");
        GapSongs x = of(THREE);
        refused(x, "false", NONE, "restore");
        x.image();
        x.days(5);
        for (int i = 0; i < 45; i++) {
            x.seek(0, i % 2, 1);
        }
        due("40 ACTS", x.count(6), 40);
        due("restore()", x.restore(), true);
        due("no ACTS", x.undo(), NONE);
        due("the DAY", x.count(2), 0);
        due("who SEEKS", x.count(5), 4);
        x.days(5);
        due("again", x.restore(), true);
        due("the DAY", x.count(2), 0);
        GapSongs y = of(THREE);
        for (int i = 0; i < 45; i++) {
            y.seek(0, i % 2, 1);
        }
        y.image();
        tell(y, "?");
        y.days(21);
        y.feed(0, 0, 0, 0, 0);
        y.undo();
        y.seek(0, 0, 2);
        y.seek(0, 1, 2);
        due("restore() with 40 ACTS", y.restore(), true);
        due("STATUS 0 stays", y.count(9), 1);
        due("STATUS 1 stays", y.count(10), 1);
        due("the tape stays", y.count(8), 20);
        for (int left = 39; left >= 0; left--) {
            due("what is sought", y.person(0, 3), (left + 1) % 2);
            due("of whom", y.person(0, 4), 1);
            due("undo()", y.undo(), left);
        }
        due("the 41st is kept no more", y.undo(), NONE);
    }
}
