/** The promises one by one, with answers worked out by hand from the document. */
public final class PromiseTest extends Checks {
    // ---- 1 to 4: the tape and the text ----

    private static void newObject() {
        about("1 a new object");
        GapSongs x = new GapSongs();
        for (int what = 0; what < 12; what++) {
            due("count(" + what + ")", x.count(what), 0);
        }
        due("fault()", x.fault(), NONE);
        due("undo()", x.undo(), NONE);
        due("restore()", x.restore(), false);
        due("most(100)", x.most(100), NONE);
        missing("song(0, 0)", () -> x.song(0, 0));
        missing("person(0, 0)", () -> x.person(0, 0));
        due("days(20)", x.days(20), 20);
    }

    private static void feed() {
        about("2 feed");
        GapSongs x = new GapSongs();
        for (int i = 1; i <= 35; i++) {
            due("feed", x.feed(0x20202020, 0x20202020, 0x20202020, 0x20202020, 0x20202020), 20 * i);
        }
        due("feed of 720", x.feed(1, 2, 3, 4, 5), NONE);
        due("count(8)", x.count(8), 700);
        due("marsh(700)", x.marsh(700), 0);
        due("count(8) behind", x.count(8), 0);
        // "song", " 9 8", ";per", "son ", "7 6;"
        due("feed", x.feed(0x736f6e67, 0x20392038, 0x3b706572, 0x736f6e20, 0x3720363b), 20);
        due("marsh(20)", x.marsh(20), 0);
        due("first(0, 0)", x.first(0, 0), 9);
        due("first(0, 1)", x.first(0, 1), 8);
        due("person(0, 1)", x.person(0, 1), 6);
        x.feed(-1, -1, -1, -1, -1);
        due("a byte of 255", x.marsh(1), 1);
    }

    private static void faults() {
        about("3, 4 marsh and fault: FAULTS");
        faulty("", 0, NONE);
        faulty("  \n\n ", 0, NONE);
        faulty("song1 2\n3;person0 9;", 0, NONE);
        faulty("x", 1, 0);
        faulty(" songs 1;", 1, 1);
        faulty("Song 1;", 1, 0);
        faulty("12345", 1, 0);
        faulty(";", 1, 0);
        faulty("song", 1, 4);
        faulty("song 1 ", 1, 7);
        faulty("song;", 1, 4);
        faulty("song 1,2;", 1, 6);
        faulty("song 1\t;", 1, 6);
        faulty("song 1;\u00e9", 1, 7);
        faulty("song 1 2 3 4 5 6 7 8;", 0, NONE);
        faulty("song 1 2 3 4 5 6 7 8 9;", 2, 21);
        faulty("song 1 2 3 4 5 6 7 8 x;", 1, 21);
        faulty("song 10;", 2, 5);
        faulty("song 0009;", 0, NONE);
        faulty("song 00009;", 2, 5);
        faulty("song 1 99999999999999999999;", 2, 7);
        faulty("song 1;song 1;song 1;song 1;song 1;", 0, NONE);
        faulty("song 1;song 1;song 1;song 1;song 1;song", 2, 35);
        faulty("person 1;", 1, 8);
        faulty("person 10 1;", 2, 7);
        faulty("person 1 10;", 2, 9);
        faulty("person 1 2 3;", 1, 11);
        faulty("person 1 1;".repeat(7), 0, NONE);
        faulty("person 1 1;".repeat(8), 2, 77);
    }

    private static void faultsOfSingers() {
        about("3, 4 marsh and fault: has, seeks");
        String two = "song 1 2;person 1 1;person 1 1;"; // 31 bytes
        faulty("has 0 0 0;", 3, 4);
        faulty("person 1 1;has 0 0 0;", 3, 17);
        faulty(two + "has 1 0 255;", 0, NONE);
        faulty(two + "has 1 0 256;", 2, 39);
        faulty(two + "has 2 0 0;", 3, 35);
        faulty(two + "has 9999 0 0;", 3, 35);
        faulty(two + "has 00000 0 0;", 2, 35);
        faulty(two + "has 0 1 0;", 3, 37);
        faulty(two + "has 0 x;", 1, 37);
        faulty(two + "has 0 0;", 1, 38);
        faulty(two + "has 0 0 0 0;", 1, 41);
        faulty(two + "has 0 0 3;has 0 0 0;", 4, 47);
        faulty(two + "has 0 0 3;has 1 0 0;", 0, NONE);
        faulty(two + "seeks 0 0 1;seeks 1 0 0;", 0, NONE);
        faulty(two + "seeks 0 0 0;", 4, 41);
        faulty(two + "seeks 0 0 2;", 3, 41);
        faulty(two + "seeks 0 1 1;", 3, 39);
        faulty(two + "seeks 2 0 1;", 3, 37);
        faulty(two + "seeks 0 0 1;seeks 0 0 1;", 4, 49);
        faulty(two + "seeks 0 0;", 1, 40);
    }

    private static void faultsOfRules() {
        about("3, 4 marsh and fault: rules");
        faulty("forgets 1;fills 1;", 0, NONE);
        faulty("forgets 1;forgets", 5, 10);
        faulty("fills 1;fills 1;", 5, 8);
        faulty("forgets memory+wit+note+place+gaps+with+day;fills wit+place+before+after+day;", 0, NONE);
        faulty("forgets before;", 3, 8);
        faulty("forgets after;", 3, 8);
        faulty("fills memory;", 3, 6);
        faulty("fills note;", 3, 6);
        faulty("fills gaps;", 3, 6);
        faulty("fills with;", 3, 6);
        faulty("forgets song;", 3, 8);
        faulty("forgets a;", 3, 8);
        faulty("forgets z;", 3, 8);
        faulty("forgets or;", 3, 8);
        faulty("forgets 1+not 1;", 3, 10);
        faulty("forgets 1 and or;", 3, 14);
        faulty("forgets not x;", 3, 12);
        faulty("forgets ;", 1, 8);
        faulty("forgets -1;", 1, 8);
        faulty("forgets 1 2;", 1, 10);
        faulty("forgets 1 x;", 1, 10);
        faulty("forgets 1 not 1;", 1, 10);
        faulty("forgets 1<2<3;", 1, 11);
        faulty("forgets 1=2=3;", 1, 11);
        faulty("forgets (1;", 1, 10);
        faulty("forgets 1);", 1, 9);
        faulty("forgets ();", 1, 9);
        faulty("forgets 1", 1, 9);
        faulty("forgets 9999;", 0, NONE);
        faulty("forgets 10000;", 2, 8);
        faulty("forgets 1 10000;", 1, 10);
        faulty("forgets (((((1)))));", 0, NONE);
        faulty("forgets ((((((1))))));", 2, 14);
        faulty("forgets ((((((x))))));", 2, 14);
        faulty("forgets ((((((not 1))))));", 2, 14);
        faulty("forgets ((((((();", 2, 14);
        faulty("forgets (((((()", 1, 14);
        faulty("forgets ((((((+", 1, 14);
        faulty("forgets ((((((", 1, 14);
        faulty("forgets (((((1)))))+(((((1)))));", 0, NONE);
        faulty("forgets not not not not not not 1;", 0, NONE);
        faulty("forgets not not not not not not not 1;", 2, 32);
        faulty("forgets not not not not not not (not not 1);", 0, NONE);
        faulty("forgets not not not not 1 and not not not not 1;", 0, NONE);
    }

    private static void marsh() {
        about("3, 4 marsh and fault");
        GapSongs x = of(THREE);
        x.days(1);
        x.hear(0, 0, 0, 0, 1);
        x.image();
        feedText(x, "song 7; song");
        illegal("marsh(21)", () -> x.marsh(21));
        illegal("marsh(-1)", () -> x.marsh(-1));
        illegal("marsh(MANY)", () -> x.marsh(MANY));
        due("count(8)", x.count(8), 20);
        due("fault()", x.fault(), NONE);
        due("marsh(12)", x.marsh(12), 1);
        due("fault()", x.fault(), 12);
        illegal("marsh(1)", () -> x.marsh(1));
        due("fault()", x.fault(), 12);
        due("the tape is empty", x.count(8), 0);
        due("SONGS stay", x.count(0), 2);
        due("the DAY stays", x.count(2), 1);
        due("ACTS stay", x.count(6), 1);
        due("HEARD stays", x.count(7), 1);
        due("the image stays", x.restore(), true);
        x.days(0);
        feedText(x, "song 7; song");
        due("marsh(7)", x.marsh(7), 0);
        due("the tape is empty", x.count(8), 0);
        due("fault()", x.fault(), NONE);
        due("SONGS", x.count(0), 1);
        due("PEOPLE", x.count(1), 0);
        due("the DAY", x.count(2), 0);
        due("ACTS are gone", x.count(6), 0);
        due("HEARD is gone", x.count(7), 0);
        due("the image is gone", x.restore(), false);
        due("STATUS 0 stays", x.count(9), 1);
        due("STATUS 1 stays", x.count(10), 1);
    }

    private static void marshAgain() {
        about("3 marsh, again and again");
        GapSongs x = new GapSongs();
        for (int i = 0; i < 20; i++) {
            String text = "song 1 2;person 0 0;has 0 0 0;forgets " + "1+".repeat(40) + "1=41 and place=" + i % 2 + ";";
            due("marsh " + i, tell(x, text), 0);
            due("the rule of text " + i, x.note(0, 0, i % 2, 1), NONE);
            due("the rule of text " + i, x.note(0, 0, 1 - i % 2, 1), 2 - i % 2);
        }
        String full = "song 1 2;person 0 0;has 0 0 0;forgets 0";
        full += "+1".repeat((699 - full.length()) / 2);
        full += ";";
        due("700 bytes at most", full.length() <= 700, true);
        due("a long rule", tell(x, full), 0);
        due("a long rule", x.then(0, 0, 1, 1), 1);
    }

    // ---- 5 to 9: what is so now ----

    private static void counts() {
        about("5 count");
        GapSongs x = of(THREE);
        int[] want = {2, 3, 0, 0, 2, 4, 0, 0, 0, 0, 0, 0};
        for (int what = 0; what < want.length; what++) {
            due("count(" + what + ")", x.count(what), want[what]);
        }
        x.days(1);
        x.hear(0, 0, 0, 0, 1);
        x.hear(0, 0, 0, 0, 10);
        x.days(0);
        x.days(0);
        feedText(x, "x");
        int[] then = {2, 3, 1, 2, 3, 0, 1, 1, 20, 0, 2, 1};
        for (int what = 0; what < then.length; what++) {
            due("count(" + what + ") then", x.count(what), then[what]);
        }
        missing("count(12)", () -> x.count(12));
        missing("count(-1)", () -> x.count(-1));
        missing("count(FEW)", () -> x.count(FEW));
    }

    private static void songs() {
        about("6 song");
        GapSongs x = of("song 1 1 1 1;song 2;person 0 0;person 0 0;person 0 0;person 0 0;"
            + "has 0 0 1;has 1 0 3;has 2 0 14;has 3 0 0;");
        x.hum(0, 0, 0, 5);  // 5 1 1 1
        x.hum(1, 0, 0, 5);
        x.hum(1, 0, 1, 6);  // 5 6 1 1
        x.hum(2, 0, 1, 6);  // 1 6 gap gap; 3 has 1 1 1 1
        due("song(0, 0)", x.song(0, 0), 4);
        due("song(0, 1)", x.song(0, 1), 15);
        due("song(0, 2)", x.song(0, 2), 11);
        // unlike: 0-1 1, 0-2 2, 0-3 1, 1-2 1, 1-3 2, 2-3 1: sums 4, 4, 4, 4
        due("song(0, 3)", x.song(0, 3), 0);
        due("song(0, 4)", x.song(0, 4), 4);
        x.giveUp(0, 0);
        // 1: 1 + 2, 2: 1 + 1, 3: 2 + 1
        due("song(0, 3) without 0", x.song(0, 3), 2);
        due("song(0, 4) without 0", x.song(0, 4), 2);
        due("song(1, 1)", x.song(1, 1), 0);
        due("song(1, 3)", x.song(1, 3), NONE);
        due("song(1, 4)", x.song(1, 4), NONE);
        missing("song(2, 0)", () -> x.song(2, 0));
        missing("song(-1, 0)", () -> x.song(-1, 0));
        missing("song(0, 5)", () -> x.song(0, 5));
        missing("song(0, -1)", () -> x.song(0, -1));
    }

    private static void people() {
        about("7 person");
        GapSongs x = of(THREE);
        int[][] want = {{1, 3, 3, NONE, NONE}, {0, 2, 1, NONE, NONE}, {2, 9, 0, 0, 1}};
        for (int p = 0; p < 3; p++) {
            for (int what = 0; what < 5; what++) {
                due("person(" + p + ", " + what + ")", x.person(p, what), want[p][what]);
            }
        }
        missing("person(3, 0)", () -> x.person(3, 0));
        missing("person(-1, 0)", () -> x.person(-1, 0));
        missing("person(0, 5)", () -> x.person(0, 5));
        missing("person(0, -1)", () -> x.person(0, -1));
    }

    private static void firsts() {
        about("8 first");
        GapSongs x = of(THREE);
        for (int place = 0; place < 4; place++) {
            due("first(0, " + place + ")", x.first(0, place), place + 1);
        }
        due("first(1, 1)", x.first(1, 1), 5);
        x.days(5);
        due("first(1, 1) later", x.first(1, 1), 5);
        missing("first(1, 2)", () -> x.first(1, 2));
        missing("first(0, 4)", () -> x.first(0, 4));
        missing("first(0, -1)", () -> x.first(0, -1));
        missing("first(2, 0)", () -> x.first(2, 0));
    }

    private static void has() {
        about("9 has");
        GapSongs x = of("song 1 2 3;person 0 0;person 0 0;person 0 0;person 0 0;has 0 0 253;has 1 0 7;has 2 0 255;");
        due("bits of no notes", x.has(0, 0, 1), 5);
        due("has(0, 0, 2)", x.has(0, 0, 2), 1);
        due("gaps alone", x.has(1, 0, 0), 0);
        due("gaps alone", x.has(2, 0, 0), 0);
        due("gaps of what one hasn't", x.has(1, 0, 1), 0);
        due("like of what one hasn't", x.has(1, 0, 2), 0);
        due("teacher", x.has(1, 0, 3), NONE);
        x.learn(1, 0, 0);
        x.days(1);          // 0 has it no more, 1 has a gap
        x.learn(2, 0, 1);
        x.days(1);
        x.learn(3, 0, 2);
        x.learn(0, 0, 2);
        due("teacher of 1", x.has(1, 0, 3), 0);
        due("pupils of 2", x.has(2, 0, 4), 9);
        due("generation round", x.has(3, 0, 5), 4);
        due("taught by of 3", x.has(3, 0, 6), 7);
        due("taught by of 0, oneself too", x.has(0, 0, 6), 7);
        x.undo();
        due("generation of 3", x.has(3, 0, 5), 3);
        due("generation of 1", x.has(1, 0, 5), 1);
        due("generation of 0", x.has(0, 0, 5), 0);
        due("taught by of 0", x.has(0, 0, 6), 0);
        x.giveUp(1, 0);
        due("a teacher stays", x.has(1, 0, 3), 0);
        missing("has(4, 0, 0)", () -> x.has(4, 0, 0));
        missing("has(0, 1, 0)", () -> x.has(0, 1, 0));
        missing("has(0, 0, 7)", () -> x.has(0, 0, 7));
        missing("has(0, 0, -1)", () -> x.has(0, 0, -1));
    }

    // ---- 10 to 15: acts ----

    private static void days() {
        about("10 days");
        GapSongs x = of(THREE);
        due("days(0)", x.days(0), NONE);
        due("days(-1)", x.days(-1), NONE);
        due("days(21)", x.days(21), NONE);
        due("days(MANY)", x.days(MANY), NONE);
        due("days(FEW)", x.days(FEW), NONE);
        due("STATUS 1", x.count(10), 5);
        due("ACTS", x.count(6), 0);
        due("days(1)", x.days(1), 1);
        due("who has what", x.has(0, 0, 1), 1);
        due("who has what", x.has(1, 0, 1), 3);
        due("gaps alone", x.has(0, 1, 0), 0);
        due("who sought has learnt", x.has(2, 0, 3), 1);
        due("and seeks no more", x.person(2, 3), NONE);
        due("days(2)", x.days(2), 3);
        due("memory 1: days 0, 2", x.has(0, 0, 1), 3);
        due("memory 2: day 0 was ahead of learning", x.has(2, 0, 1), 0);
        due("days(1)", x.days(1), 4);
        due("memory 2: day 3", x.has(2, 0, 1), 1);
        GapSongs y = new GapSongs();
        for (int i = 1; i < 500; i++) {
            y.days(20);
        }
        due("days(20) beyond 9999", y.days(20), NONE);
        due("days(19) to 9999", y.days(19), 9999);
        due("days(1) beyond 9999", y.days(1), NONE);
        due("STATUS 1", y.count(10), 2);
    }

    private static void rules() {
        about("10 days, by rules");
        // 1 forgets at its turn by what is so then: 0 has lost it already, so nobody is with 1
        GapSongs x = of("song 4;person 0 0;person 0 0;has 0 0 0;has 1 0 0;forgets with;");
        x.days(1);
        due("with, by person", x.song(0, 1), 2);
        GapSongs y = of("song 4 7 4;person 3 0;person 5 0;has 0 0 0;has 1 0 2;"
            + "forgets memory*note<note+10 and not gaps or place=2 and day=1;");
        // memory 3: 12 < 14 forgets place 0; memory 5: 20 < 14 no, and gaps: only place 2 on day 1
        y.days(1);
        due("0 behind day 0", y.has(0, 0, 1), 1);
        due("1 behind day 0", y.has(1, 0, 1), 2);
        y.days(1);
        due("0 behind day 1", y.has(0, 0, 1), 5);
        due("1 behind day 1", y.has(1, 0, 1), 6);
        expr("1+2*3=7", 1);
        expr("(1+2)*3=9", 1);
        expr("9-4-3=2", 1);
        expr("9/4/2=1", 1);
        expr("(0-7)/2=0-3", 1);
        expr("7/0=0", 1);
        expr("5/(3-3)", 0);
        expr("0-1", 0);
        expr("2", 1);
        expr("not 2", 0);
        expr("not not 2=1", 0);     // not (not (2=1))
        expr("(0-1) and 5", 1);
        expr("0 or (0-3)", 1);
        expr("1 or 1 and 0", 1);
        expr("(1 or 1) and 0", 0);
        expr("2<3=1", -1);
        expr("(2<3)=1", 1);
        expr("9999*9999*9999<0", 1);
        expr("9999*9999*99/9999<9999*99", 1);
        expr("(0-2147*1000*1000-483*1000-648)/(0-1)<0", 1);
        expr("wit=6 and memory=4 and note=8 and place=0 and gaps=0 and with=0 and day=0", 1);
    }

    private static void learn() {
        about("11 learn");
        GapSongs x = of(THREE);
        due("of one without a gap", x.learn(2, 0, 0), NONE);
        due("of one who hasn't it", x.learn(2, 1, 1), NONE);
        due("of oneself", x.learn(2, 0, 2), NONE);
        due("what one has", x.learn(0, 0, 1), NONE);
        due("STATUS 1", x.count(10), 4);
        due("learn(2, 0, 1)", x.learn(2, 0, 1), 3);
        due("the note ahead", x.note(2, 0, 1, 0), 1);
        due("what one seeks stays", x.person(2, 3), 0);
        due("learn(1, 1, 0)", x.learn(1, 1, 0), 1);
        due("0 at the beginning", x.note(1, 1, 0, 0), 0);
        due("ACTS", x.count(6), 2);
        missing("learn(3, 0, 1)", () -> x.learn(3, 0, 1));
        missing("learn(2, 2, 1)", () -> x.learn(2, 2, 1));
        missing("learn(2, 0, -1)", () -> x.learn(2, 0, -1));
        GapSongs y = of("song 1 2 3 4 5;person 0 7;person 0 2;has 0 0 29;fills wit*10+before-after-place*9;");
        // gaps at 0, 2, 3, 4; wit 2: 20+0-2-0 kept to 9, 20+2-0-18=4, 20+4-0-27 kept to 0, 20+0-0-36 kept to 0
        due("by the rule", y.learn(1, 0, 0), 1);
        int[] want = {9, 2, 4, 0, 0};
        for (int place = 0; place < 5; place++) {
            due("note at " + place, y.note(1, 0, place, 0), want[place]);
        }
        GapSongs w = of("song 5 1 1 1 1 1 1 1;person 0 7;person 0 2;has 0 0 128;fills after+3;");
        due("after the end of 8 notes", w.learn(1, 0, 0), 7);
        due("after the end of 8 notes", w.note(1, 0, 7, 0), 3);
        GapSongs z = of("song 1 2;person 0 0;person 0 0;has 0 0 2;forgets 0;fills day;");
        z.days(3);
        z.learn(1, 0, 0);
        due("by the day", z.note(1, 0, 1, 0), 3);
    }

    private static void seek() {
        about("12 seek");
        GapSongs x = of(THREE);
        due("so already", x.seek(2, 0, 1), false);
        due("oneself", x.seek(2, 0, 2), false);
        due("nothing already", x.seek(0, 0, NONE), false);
        due("STATUS 1", x.count(10), 3);
        due("in place of it", x.seek(2, 1, 0), true);
        due("person(2, 3)", x.person(2, 3), 1);
        due("person(2, 4)", x.person(2, 4), 0);
        due("what one has", x.seek(0, 0, 1), true);
        due("nothing", x.seek(2, MANY, NONE), true);
        due("count(5)", x.count(5), 1);
        due("ACTS", x.count(6), 3);
        missing("seek(3, 0, 1)", () -> x.seek(3, 0, 1) ? 1 : 0);
        missing("seek(3, 0, NONE)", () -> x.seek(3, 0, NONE) ? 1 : 0);
        missing("seek(0, 0, 3)", () -> x.seek(0, 0, 3) ? 1 : 0);
        missing("seek(0, 0, -2)", () -> x.seek(0, 0, -2) ? 1 : 0);
        missing("seek(0, 2, 1)", () -> x.seek(0, 2, 1) ? 1 : 0);
        missing("seek(0, 2, 0)", () -> x.seek(0, 2, 0) ? 1 : 0);
        x.days(1);
        due("one who has it seeks on", x.person(0, 3), 0);
    }

    private static void giveUp() {
        about("13 giveUp");
        GapSongs x = of(THREE);
        due("giveUp(1, 0)", x.giveUp(1, 0), 1);
        due("giveUp(0, 0)", x.giveUp(0, 0), 0);
        due("who has it", x.song(0, 1), 0);
        due("giveUp(0, 0) again", x.giveUp(0, 0), NONE);
        due("STATUS 1", x.count(10), 1);
        missing("giveUp(3, 0)", () -> x.giveUp(3, 0));
        missing("giveUp(0, 2)", () -> x.giveUp(0, 2));
    }

    private static void hum() {
        about("14 hum");
        GapSongs x = of(THREE);
        due("no gap", x.hum(0, 0, 0, 1), false);
        due("one hasn't it", x.hum(2, 0, 0, 1), false);
        due("note 10", x.hum(1, 0, 1, 10), false);
        due("note NONE", x.hum(1, 0, 1, NONE), false);
        due("STATUS 1", x.count(10), 4);
        due("note 0", x.hum(0, 1, 0, 0), true);
        due("note 9", x.hum(1, 0, 1, 9), true);
        due("it is a note", x.note(1, 0, 1, 0), 9);
        due("no gap then", x.has(1, 0, 1), 0);
        missing("hum(3, 0, 1, 1)", () -> x.hum(3, 0, 1, 1) ? 1 : 0);
        missing("hum(1, 2, 1, 1)", () -> x.hum(1, 2, 1, 1) ? 1 : 0);
        missing("hum(1, 0, 4, 1)", () -> x.hum(1, 0, 4, 1) ? 1 : 0);
        missing("hum(1, 0, -1, 99)", () -> x.hum(1, 0, -1, 99) ? 1 : 0);
    }

    private static void undo() {
        about("15 undo");
        GapSongs x = of(THREE);
        for (int i = 0; i < 41; i++) {
            due("seek", x.seek(0, i % 2, 1), true);
        }
        due("40 are kept", x.count(6), 40);
        for (int left = 39; left >= 0; left--) {
            due("undo()", x.undo(), left);
            due("what 0 seeks", x.person(0, 3), left % 2);
        }
        due("none left", x.undo(), NONE);
        due("the first one stays", x.person(0, 3), 0);
        due("STATUS 1", x.count(10), 0);
        x.days(7);
        x.learn(1, 1, 0);
        x.undo();
        x.undo();
        due("the DAY", x.count(2), 0);
        due("who has it", x.song(0, 1), 3);
        due("GAPS", x.count(4), 2);
        due("no TEACHER", x.has(2, 0, 3), NONE);
        due("who seeks", x.person(2, 4), 1);
    }

    // ---- 16 to 21: then ----

    private static void then() {
        about("16, 17 then and note");
        GapSongs x = of(THREE);
        due("then(0, 0, 6, 0)", x.then(0, 0, 6, 0), 1);
        due("then(0, 0, 7, 0): days 0, 2, 4, 6", x.then(0, 0, 7, 0), 0);
        due("then(0, 0, 6, 1)", x.then(0, 0, 6, 1), 3);
        due("then(0, 0, 7, 1)", x.then(0, 0, 7, 1), 0);
        due("then(0, 0, 3, 2)", x.then(0, 0, 3, 2), 2);
        due("then(2, 0, 1, 2)", x.then(2, 0, 1, 2), 2);
        due("then(2, 0, 100, 0)", x.then(2, 0, 100, 0), 0);
        due("note(0, 0, 3, 6)", x.note(0, 0, 3, 6), 4);
        due("note(0, 0, 3, 7)", x.note(0, 0, 3, 7), NONE);
        due("note(0, 0, 0, 1)", x.note(0, 0, 0, 1), NONE);
        due("note(2, 0, 2, 0)", x.note(2, 0, 2, 0), NONE);
        due("note(2, 0, 2, 1)", x.note(2, 0, 2, 1), 3);
        due("nothing has happened", x.count(2), 0);
        due("nothing has happened", x.count(6), 0);
        illegal("then 101", () -> x.then(0, 0, 101, 0));
        illegal("then -1", () -> x.then(0, 0, -1, 0));
        missing("then what ahead of days", () -> x.then(0, 0, 101, 3));
        missing("then person", () -> x.then(3, 0, 101, 0));
        missing("then song", () -> x.then(0, 2, 101, 0));
        illegal("note 101", () -> x.note(0, 0, 0, 101));
        illegal("note -1", () -> x.note(0, 0, 0, -1));
        missing("note place", () -> x.note(0, 1, 2, 101));
        missing("note person", () -> x.note(3, 0, 0, 101));
        missing("note song", () -> x.note(0, 2, 0, 101));
    }

    private static void sung() {
        about("18 to 21 sung, lost, learnt, most");
        GapSongs x = of(THREE);
        due("sung(0, 3, 0)", x.sung(0, 3, 0), 4);
        due("sung(0, 4, 0)", x.sung(0, 4, 0), 0);
        due("sung(0, 2, 1)", x.sung(0, 2, 1), 7);
        due("sung(0, 3, 1)", x.sung(0, 3, 1), 5);
        due("sung(0, 100, 1)", x.sung(0, 100, 1), 0);
        illegal("sung 101", () -> x.sung(0, 101, 0));
        illegal("sung -1", () -> x.sung(0, -1, 1));
        missing("sung what", () -> x.sung(0, 101, 2));
        missing("sung song", () -> x.sung(2, 101, 0));
        due("lost(0)", x.lost(0), 13);
        due("lost(1)", x.lost(1), 1);
        missing("lost(2)", () -> x.lost(2));
        due("learnt(2, 0)", x.learnt(2, 0), 1);
        due("learnt(2, 1)", x.learnt(2, 1), NONE);
        due("learnt(0, 0)", x.learnt(0, 0), 0);
        missing("learnt(3, 0)", () -> x.learnt(3, 0));
        missing("learnt(0, 2)", () -> x.learnt(0, 2));
        due("most(0)", x.most(0), 0);
        due("most(7): 2 alone", x.most(7), 2);
        due("most(100): nobody has any", x.most(100), 0);
        illegal("most(101)", () -> x.most(101));
        illegal("most(-1)", () -> x.most(-1));
        GapSongs y = of("song 1;song 2 3;person 0 0;person 0 0;has 0 0 0;seeks 1 1 0;has 0 1 0;"
            + "forgets day=99 and note=1 or day=98 and note=2;");
        due("lost behind 100", y.lost(0), 100);
        due("not lost", y.lost(1), NONE);
        due("learnt behind 99", y.learnt(1, 1), 99);
        y.days(1);
        due("lost behind 99", y.lost(0), 99);
        y.undo();
        GapSongs w = of("song 2 3;person 0 0;person 0 0;seeks 1 0 0;has 0 0 0;forgets day=99 and note=2;");
        due("learnt behind 100", w.learnt(1, 0), 100);
        GapSongs z = of("song 1;song 2 3;person 0 0;person 0 0;has 0 0 0;seeks 1 1 0;has 0 1 0;"
            + "forgets day=100 and note<3;");
        due("lost behind 101", z.lost(0), NONE);
        due("learnt behind 101", z.learnt(1, 1), NONE);
        z.giveUp(0, 0);
        due("lost now", z.lost(0), 0);
    }

    // ---- 22 to 25: side by side ----

    private static void both() {
        about("22 both");
        GapSongs x = of("song 1 2 3 4 5 6;person 0 0;person 0 0;person 0 0;has 0 0 0;has 1 0 63;has 2 0 21;"
            + "song 1 1;");
        x.hum(2, 0, 0, 2);  // 2 2 gap 4 gap 6
        x.hum(2, 0, 2, 6);  // 2 2 6 4 gap 6
        due("unlike", x.both(0, 2, 0, 0), 2);
        due("unlike the other way round", x.both(2, 0, 0, 0), 2);
        due("common 2 4 6", x.both(0, 2, 0, 1), 3);
        due("common the other way round", x.both(2, 0, 0, 1), 3);
        due("with oneself", x.both(2, 2, 0, 0), 0);
        due("in common with oneself", x.both(2, 2, 0, 1), 5);
        due("one hasn't it", x.both(0, 1, 0, 0), NONE);
        due("one hasn't it", x.both(1, 0, 0, 1), NONE);
        due("nobody has it", x.both(0, 0, 1, 1), NONE);
        missing("both what", () -> x.both(0, 2, 0, 2));
        missing("both person", () -> x.both(3, 0, 0, 0));
        missing("both other", () -> x.both(0, -1, 0, 0));
        missing("both song", () -> x.both(0, 0, 2, 0));
    }

    private static void toLearn() {
        about("23 toLearn");
        GapSongs x = of("song 3 3 1;person 0 0;person 0 0;person 0 0;person 0 0;person 0 0;"
            + "has 1 0 4;has 2 0 2;has 3 0 2;has 4 0 0;");
        // of 1: 3 3 3 is like at 2 places, of 2 and 3: 3 3 1 at 3, 4 has no gap
        due("whom", x.toLearn(0, 0, 0), 2);
        due("how like", x.toLearn(0, 0, 1), 3);
        due("one has it", x.toLearn(4, 0, 0), NONE);
        due("one has it", x.toLearn(4, 0, 1), NONE);
        x.hum(2, 0, 1, 9);
        x.hum(3, 0, 1, 9);
        due("whom then", x.toLearn(0, 0, 0), 1);
        due("how like then", x.toLearn(0, 0, 1), 2);
        x.hum(1, 0, 2, 9);
        due("nobody", x.toLearn(0, 0, 0), NONE);
        due("nobody", x.toLearn(0, 0, 1), NONE);
        missing("toLearn what", () -> x.toLearn(0, 0, 2));
        missing("toLearn person", () -> x.toLearn(5, 0, 0));
        missing("toLearn song", () -> x.toLearn(0, 1, 0));
    }

    private static void lessons() {
        about("24, 25 lessons and lesson");
        // gaps are filled with the wit: 0 fits place 1 (wit 2), 1 fits place 0 (wit 1), 2 none (wit 9)
        GapSongs x = of("song 1 2 3;person 0 2;person 0 1;person 0 9;person 0 0;person 0 0;"
            + "has 3 0 1;has 4 0 2;fills wit;");
        due("how many", x.lessons(0, 0), 2);
        due("how like", x.lessons(0, 1), 6);
        due("0 of 4", x.lesson(0, 0), 4);
        due("1 of 3", x.lesson(1, 0), 3);
        due("2 of nobody", x.lesson(2, 0), NONE);
        due("3 has it", x.lesson(3, 0), NONE);
        GapSongs y = of("song 1 2;song 4;person 0 9;person 0 9;person 0 9;person 0 9;person 0 9;"
            + "has 1 0 1;has 3 0 2;has 4 0 0;fills 7;");
        // 0 and 2 of 1 and 3, each way like at 2 places together: the first row is 1, 3
        due("how many", y.lessons(0, 0), 2);
        due("how like", y.lessons(0, 1), 2);
        due("0 of 1", y.lesson(0, 0), 1);
        due("2 of 3", y.lesson(2, 0), 3);
        due("nobody teaches", y.lessons(1, 0), 0);
        due("nobody teaches", y.lessons(1, 1), 0);
        due("nobody teaches", y.lesson(0, 1), NONE);
        y.giveUp(1, 0);
        due("one teacher", y.lessons(0, 0), 1);
        due("nobody behind all", y.lesson(0, 0), 3);
        due("nobody behind all", y.lesson(1, 0), NONE);
        missing("lessons what", () -> y.lessons(0, 2));
        missing("lessons song", () -> y.lessons(2, 0));
        missing("lesson person", () -> y.lesson(5, 0));
        missing("lesson song", () -> y.lesson(0, 2));
    }

    // ---- 26 to 29: heard ----

    private static void hear() {
        about("26, 27 hear and forget");
        GapSongs x = of(THREE);
        due("days 21", x.hear(0, 0, 0, 21, 1), NONE);
        due("days -1", x.hear(0, 0, 0, -1, 1), NONE);
        due("note 10", x.hear(0, 0, 0, 0, 10), NONE);
        due("note -2", x.hear(0, 0, 0, 0, -2), NONE);
        for (int i = 1; i <= 8; i++) {
            due("hear", x.hear(2, 1, 1, 20, i == 1 ? NONE : 9), i);
        }
        due("the ninth", x.hear(0, 0, 0, 0, 1), NONE);
        due("STATUS 2", x.count(11), 5);
        missing("hear person", () -> x.hear(3, 0, 0, 21, 1));
        missing("hear song", () -> x.hear(0, 2, 0, 21, 1));
        missing("hear place", () -> x.hear(0, 1, 2, 21, 1));
        due("STATUS 2", x.count(11), 5);
        x.forget();
        due("count(7)", x.count(7), 0);
        due("otherwise(2)", x.otherwise(2), 1);
        due("hear", x.hear(0, 0, 0, 0, 1), 1);
    }

    private static void otherwise() {
        about("28, 29 otherwise and ask");
        GapSongs x = of("song 1 2 3;person 1 0;has 0 0 0;");
        due("nothing heard", x.otherwise(0), 9);
        due("nothing heard", x.otherwise(1), 0);
        due("nothing heard", x.otherwise(2), 1);
        // still there behind 2 days by all memories but 0
        x.hear(0, 0, 1, 2, 2);
        due("how many", x.otherwise(0), 8);
        due("the first", x.otherwise(1), 2);
        due("without", x.otherwise(2), 1);
        // gaps behind 10 days by memory 2 .. 9: lost, lost, 2, 2, 2, 2, 2, 1
        due("whom to ask", x.ask(0), 0);
        due("how many", x.ask(1), 3);
        x.hear(0, 0, 1, 3, NONE);
        due("memory 1 alone", x.otherwise(0), 0);
        due("memory 1 alone", x.otherwise(1), NONE);
        due("without", x.otherwise(2), 1);
        due("nobody to ask", x.ask(0), NONE);
        due("nobody to ask", x.ask(1), 0);
        missing("otherwise(3)", () -> x.otherwise(3));
        missing("otherwise(-1)", () -> x.otherwise(-1));
        missing("ask(2)", () -> x.ask(2));
        missing("ask(-1)", () -> x.ask(-1));
        GapSongs y = of("song 1 2;person 0 0;person 9 0;has 0 0 0;has 1 0 0;");
        y.days(1);          // both have a gap at 0; from day 1 on
        y.hear(1, 0, 1, 4, NONE);
        // days 1 to 4: 1 must forget again: memory 0, 1, 2, 3 (of day 4, the fourth); 0 doesn't matter
        due("without", y.otherwise(2), 0);
        due("how many", y.otherwise(0), 4);
        due("10 by who", y.otherwise(1), 10);
        // behind 10 days both have lost it by each of these: all sums are 0
        due("of like ones the least", y.ask(0), 0);
        due("one number", y.ask(1), 1);
        due("memory is as it was", y.person(1, 0), 9);
    }

    // ---- 30 to 32: chance and choice ----

    private static void winters() {
        about("30 winters");
        GapSongs x = of(THREE);
        due("day 0 matters, day 1 doesn't", x.winters(0, 0, 2, 3), 30);
        due("days 0, 2, 4", x.winters(0, 0, 5, 3), 2700);
        due("never", x.winters(0, 0, 5, 0), 0);
        due("always", x.winters(0, 0, 5, 10), 100000);
        due("learnt on day 0, forgets on day 3", x.winters(2, 0, 4, 6), 6000);
        due("with a gap", x.winters(1, 0, 1, 10), 0);
        illegal("days 0", () -> x.winters(0, 0, 0, 5));
        illegal("days 6", () -> x.winters(0, 0, 6, 5));
        illegal("tenths 11", () -> x.winters(0, 0, 1, 11));
        illegal("tenths -1", () -> x.winters(0, 0, 1, -1));
        missing("winters person", () -> x.winters(3, 0, 0, 5));
        missing("winters song", () -> x.winters(0, 2, 0, 5));
    }

    private static void game() {
        about("31 game");
        GapSongs x = of(THREE);
        // 1 gains 3 by 2, if it stays; 0 gains nothing: it rests at (0, 0) and (1, 0)
        due("how many", x.game(0, 1, 0, 0), 2);
        due("the first", x.game(0, 1, 0, 1), 0);
        due("the other way round", x.game(1, 0, 0, 1), 0);
        due("one hasn't it", x.game(0, 2, 0, 0), NONE);
        due("one hasn't it", x.game(0, 2, 0, 1), NONE);
        illegal("both are one", () -> x.game(2, 2, 0, 0));
        missing("game what", () -> x.game(2, 2, 0, 2));
        missing("game person", () -> x.game(3, 3, 0, 0));
        missing("game other", () -> x.game(0, 3, 0, 0));
        missing("game song", () -> x.game(0, 1, 2, 0));
        // nobody forgets; who gives it up learns it of the other one by seeking, and is a pupil then
        GapSongs y = of("song 1 2;person 0 0;person 0 0;has 0 0 2;has 1 0 2;seeks 0 0 1;forgets 0;");
        // (0,0) 1 1; (0,1) 1 0; (1,0) 2 3 + 1; (1,1) 0 0: 0 gives it up, if 1 stays: (1,0) rests alone
        due("how many", y.game(0, 1, 0, 0), 1);
        due("the first", y.game(0, 1, 0, 1), 10);
        due("the other way round", y.game(1, 0, 0, 1), 1);
        due("nothing has happened", y.song(0, 1), 3);
        // 0 gains 3 and 2 notes by a pupil, or all 5 notes by learning it anew: both rest, if 1 stays
        GapSongs z = of("song 1 2 3 4 5;person 0 0;person 0 0;person 0 0;has 0 0 7;has 1 0 1;"
            + "seeks 0 0 1;seeks 2 0 0;forgets 0;");
        due("a pupil is worth 3 notes", z.game(0, 1, 0, 0), 2);
        due("a pupil is worth 3 notes", z.game(0, 1, 0, 1), 0);
    }

    private static void years() {
        about("32 years");
        GapSongs x = of(THREE);
        due("years(5, 0, 0)", x.years(5, 0, 0), 0);
        due("years(5, 0, 1)", x.years(5, 0, 1), 2);
        due("years(5, 0, 2)", x.years(5, 0, 2), 0);
        drawn();
        illegal("n 101", () -> x.years(5, 101, 0));
        illegal("n -1", () -> x.years(5, -1, 0));
        missing("years what", () -> x.years(5, 101, 3));
        missing("years what", () -> x.years(5, 0, -1));
        due("nothing has happened", x.count(2), 0);
        GapSongs y = of("song 1;song 2;");
        due("without people", y.years(7, 100, 2), 2);
        due("without people", y.years(7, 100, 0), 0);
        GapSongs z = of("person 1 1;");
        due("without songs", z.years(7, 100, 1), 0);
    }

    /** Plays the draws of many seeds for one DAY by hand: who seeks, or gives up, is all that happens there. */
    private static void drawn() {
        GapSongs x = of("song 1 2;song 3 4;person 0 0;person 0 0;person 0 0;has 0 0 1;has 1 1 2;forgets 0;");
        for (int seed = -40; seed < 40; seed++) {
            long[] s = {seed & 0xFFFFFFFFL};
            int kind = draw(s, 5);
            int taught = 0;
            int gaps = 2;
            int unsung = 0;
            if (kind < 2) {
                int p = draw(s, 3);
                int song = draw(s, 2);
                if (kind == 0) {
                    int of = draw(s, 3);
                    taught = p != song && of == song ? 1 : 0;   // song 0 is 0's, song 1 is 1's
                } else if (p == song) {
                    gaps = 1;
                    unsung = 1;
                }
            }
            due("years(" + seed + ", 1, 0)", x.years(seed, 1, 0), taught);
            due("years(" + seed + ", 1, 1)", x.years(seed, 1, 1), gaps);
            due("years(" + seed + ", 1, 2)", x.years(seed, 1, 2), unsung);
        }
    }

    private static int draw(long[] seed, int n) {
        seed[0] = (seed[0] * 1103515245L + 12345L) % 4294967296L;
        return (int) (seed[0] / 65536L % 32768L % n);
    }

    // ---- 33 to 38 ----

    private static void ofOne() {
        about("33 of");
        GapSongs x = of("song 1 1 2 9 2;song 3;person 0 0;person 0 0;person 0 0;has 0 0 8;forgets day=0 and place=0;");
        due("no teacher", x.of(0, 0, 0), NONE);
        due("changes, gaps left out", x.of(0, 0, 1), 1);
        due("highest", x.of(0, 0, 2), 2);
        due("one hasn't it", x.of(1, 0, 1), NONE);
        due("one hasn't it", x.of(1, 0, 2), NONE);
        x.learn(1, 0, 0);
        x.days(1);
        x.learn(2, 0, 1);
        due("origin", x.of(2, 0, 0), 0);
        due("changes: 0 1 2 2 2", x.of(2, 0, 1), 2);
        x.giveUp(0, 0);
        x.giveUp(2, 0);
        due("origin of who hasn't it", x.of(2, 0, 0), 0);
        x.learn(0, 0, 1);
        due("it comes round", x.of(2, 0, 0), NONE);
        due("it comes round", x.of(0, 0, 0), NONE);
        missing("of what", () -> x.of(0, 0, 3));
        missing("of person", () -> x.of(3, 0, 0));
        missing("of song", () -> x.of(0, 2, 0));
    }

    private static void kept() {
        about("34 kept");
        GapSongs x = of(THREE);
        due("kept(0, 0, 0)", x.kept(0, 0, 0), 13);
        due("kept(0, 1, 0)", x.kept(0, 1, 0), 12);
        due("kept(0, 7, 0): 2 alone, with two gaps", x.kept(0, 7, 0), 12);
        due("nobody has it", x.kept(0, 13, 0), NONE);
        due("ready now", x.kept(0, 0, 1), 2);
        due("ready behind 3", x.kept(0, 3, 1), 1);
        due("ready behind 4", x.kept(0, 4, 1), 5);
        due("ready behind 100", x.kept(0, 100, 1), 0);
        illegal("kept 101", () -> x.kept(0, 101, 0));
        illegal("kept -1", () -> x.kept(0, -1, 0));
        missing("kept what", () -> x.kept(0, 101, 2));
        missing("kept song", () -> x.kept(2, 101, 0));
    }

    private static void later() {
        about("35 later");
        GapSongs x = of(THREE);
        due("rarest now", x.later(0, 0), 1);
        due("rarest behind 1", x.later(1, 0), 0);
        due("rarest behind 13", x.later(13, 0), NONE);
        due("taught in 0", x.later(0, 1), 0);
        due("taught in 100", x.later(100, 1), 1);
        due("forgotten in 0", x.later(0, 2), 0);
        due("forgotten in 1", x.later(1, 2), 3);
        // 4 of 0, 1 of song 1, 3 of 1, 4 of 2
        due("forgotten in 100", x.later(100, 2), 12);
        due("and again", x.later(100, 2), 12);
        illegal("later 101", () -> x.later(101, 0));
        illegal("later -1", () -> x.later(-1, 2));
        missing("later what", () -> x.later(101, 3));
        missing("later what", () -> x.later(0, -1));
    }

    private static void agreed() {
        about("36 agreed");
        GapSongs x = of("song 8 8;person 0 0;person 0 0;person 0 0;person 0 0;has 0 0 1;has 1 0 1;has 2 0 1;has 3 0 1;");
        due("all gaps", x.agreed(0, 0), NONE);
        x.hum(0, 0, 0, 5);
        x.hum(1, 0, 0, 3);
        due("of like ones the least", x.agreed(0, 0), 3);
        x.hum(2, 0, 0, 5);
        due("most", x.agreed(0, 0), 5);
        due("agreed(0, 1)", x.agreed(0, 1), 8);
        missing("agreed place", () -> x.agreed(0, 2));
        missing("agreed song", () -> x.agreed(1, 0));
    }

    private static void image() {
        about("37, 38 image and restore");
        GapSongs x = of(THREE);
        x.days(1);
        x.seek(1, 1, 0);
        x.hear(0, 0, 0, 0, NONE);
        x.image();
        x.days(0);
        feedText(x, "x");
        x.days(5);
        x.undo();
        x.undo();
        x.undo();
        x.giveUp(0, 0);
        x.forget();
        for (int i = 0; i < 2; i++) {
            due("restore()", x.restore(), true);
            due("the DAY", x.count(2), 1);
            due("who has it", x.song(0, 1), 7);
            due("TEACHERS", x.has(2, 0, 3), 1);
            due("who seeks", x.count(5), 2);
            due("ACTS", x.count(6), 2);
            due("HEARD", x.count(7), 1);
            due("the tape is as it was", x.count(8), 20);
            due("STATUS is as it was", x.count(10), 1);
            due("undo()", x.undo(), 1);
            due("undo()", x.undo(), 0);
            due("GAPS ahead of all", x.count(4), 2);
            x.hear(0, 0, 0, 0, 1);
        }
        x.image();
        x.days(3);
        due("another image", x.restore(), true);
        due("the DAY of the other one", x.count(2), 0);
        GapSongs y = new GapSongs();
        due("none", y.restore(), false);
        y.image();
        due("of nothing", y.restore(), true);
    }

    public static void main(String[] args) {
        newObject();
        feed();
        faults();
        faultsOfSingers();
        faultsOfRules();
        marsh();
        marshAgain();
        counts();
        songs();
        people();
        firsts();
        has();
        days();
        rules();
        learn();
        seek();
        giveUp();
        hum();
        undo();
        then();
        sung();
        both();
        toLearn();
        lessons();
        hear();
        otherwise();
        winters();
        game();
        years();
        ofOne();
        kept();
        later();
        agreed();
        image();
        end("all promises are kept");
    }
}
