/** The boundaries of the text: how much may be told, TOKENS, EXPR, FAULTS. */
final class TextBoundaries extends Boundaries {
    private static final String SIGNS_OF_SUMS = "+-*/<=";

    private TextBoundaries() {
    }

    static void run() {
        calls();
        howMany();
        tokens();
        bytesOfTokens();
        lines();
        gapsAtFirst();
        expressions();
        valuesOfForgets();
        valuesOfFills();
        firstFault();
        faultOne();
        faultTwo();
        faultTwoOfRules();
        faultThree();
        faultFour();
        faultFive();
    }

    private static void calls() {
        sentence("An object is used for at most 512 calls after it has been made; what later calls answer is free.");
        GapSongs x = of(THREE); // 5 feeds and marsh
        for (int call = 7; call < 512; call++) {
            int day = 1 + (call - 7) / 2;
            if (call % 2 == 1) {
                due("days(1), call " + call, x.days(1), day);
            } else {
                due("count(2), call " + call, x.count(2), day);
            }
        }
        due("count(6), call 512", x.count(6), 40);
    }

    private static void howMany() {
        sentence("SONGS 0, 1 .. (at most 5)");
        String five = "song 5;song 6;song 7;song 8;song 9;";
        GapSongs x = of(five);
        due("count(0)", x.count(0), 5);
        due("first(0, 0)", x.first(0, 0), 5);
        due("first(4, 0)", x.first(4, 0), 9);
        missing("first(5, 0)", () -> x.first(5, 0));
        faulty(five + "song 0;", 2, 35);

        sentence(": 1 to 8 NOTES (0 to 9 each): THE FIRST.");
        faulty("song;", 1, 4);
        GapSongs y = of("song 0;song 9 8 7 6 5 4 3 0;");
        due("1 NOTE", y.song(0, 0), 1);
        due("8 NOTES", y.song(1, 0), 8);
        due("a NOTE of 0", y.first(0, 0), 0);
        due("a NOTE of 9", y.first(1, 0), 9);
        due("the 8th NOTE", y.first(1, 7), 0);
        faulty("song 9 8 7 6 5 4 3 2 1;", 2, 21);
        faulty("song 10;", 2, 5);

        sentence("PEOPLE 0, 1 .. (at most 7): MEMORY (0 to 9), WIT (0 to 9);");
        String seven = "person 0 9;person 1 8;person 2 7;person 3 6;person 4 5;person 5 4;person 9 0;";
        GapSongs z = of(seven);
        due("count(1)", z.count(1), 7);
        due("the least MEMORY", z.person(0, 0), 0);
        due("the greatest WIT", z.person(0, 1), 9);
        due("the greatest MEMORY", z.person(6, 0), 9);
        due("the least WIT", z.person(6, 1), 0);
        missing("person(7, 0)", () -> z.person(7, 0));
        faulty(seven + "person 1 1;", 2, 77);
        faulty("person 10 0;", 2, 7);
        faulty("person 0 10;", 2, 9);

        sentence("who HAS a SONG has each of its NOTES, or a GAP.");
        GapSongs v = of("song 4 5 6;person 0 0;person 0 0;has 0 0 2;");
        due("NOTES and a GAP", sungBy(v, 0, 0), "4_6");
        due("who hasn't it", sungBy(v, 1, 0), "-");

        sentence("One may SEEK a SONG of somebody: one SONG, of one other (also one that one HAS). Rules: FORGETS, FILLS.");
        GapSongs w = of("song 1 2;song 3;person 0 0;person 0 0;person 0 0;has 0 0 0;has 1 0 1;has 1 1 0;"
            + "seeks 0 0 1;forgets 0;fills 7;");
        due("what one HAS is sought", w.person(0, 3), 0);
        w.days(20);
        due("what one HAS is sought on", w.person(0, 3), 0);
        w.seek(0, 1, 2);
        due("one SONG alone", w.person(0, 3), 1);
        due("of one other alone", w.person(0, 4), 2);
    }

    private static void tokens() {
        sentence("A TEXT of at most 700 bytes tells it.");
        String blanks = " ".repeat(693);
        right(blanks + "song 7;");
        faulty(" " + blanks + "song 7", 1, 700);
        faulty(blanks + "song 7!", 1, 699);

        sentence("TOKENS: words (a .. z, the longest row),");
        right("song1;person2 3;forgets(day)and(day);");
        faulty("songs 1;", 1, 0);
        faulty("son g 1;", 1, 0);
        faulty("songsong 1;", 1, 0);
        for (String word : new String[] {"song", "person", "has", "seeks", "forgets", "fills"}) {
            faulty("x" + word.substring(1) + " 1;", 1, 0);
            faulty(word.substring(0, word.length() - 1) + "x 1;", 1, 0);
            faulty(word.substring(0, word.length() - 1) + " 1;", 1, 0);
        }
        for (String word : new String[] {"memory", "wit", "note", "place", "gaps", "with", "day"}) {
            faulty("forgets x" + word.substring(1) + ";", 3, 8);
            faulty("forgets " + word.substring(0, word.length() - 1) + "x;", 3, 8);
        }
        faulty("forgets 1 xr 1;", 1, 10);
        faulty("forgets 1 xnd 1;", 1, 10);
        faulty("forgets xot 1;", 3, 8);
        faulty("fills xefore;", 3, 6);
        faulty("fills xfter;", 3, 6);
        faulty("forgets dayday;", 3, 8);
        faulty("forgets 1 andnot 1;", 1, 10);
        faulty("forgets 1 and notnot 1;", 3, 14);
        for (char c = 'a'; c <= 'z'; c++) {
            faulty("forgets " + c + ";", 3, 8);
            faulty("forgets " + Character.toUpperCase(c) + ";", 1, 8);
        }

        sentence("NUMBERS (1 to 4 digits),");
        expr("0", 0);
        expr("9", 1);
        expr("9999=9998+1", 1);
        expr("0001=1", 1);
        expr("00001", -1);
        expr("10000", -1);
        faulty("forgets 10000;", 2, 8);
        faulty("song 12;", 2, 5);
        due("two NUMBERS", of("song 1 2;").song(0, 0), 2);
    }

    private static void bytesOfTokens() {
        sentence("signs ; ( ) + - * / < = ;");
        right("forgets ((1+2-3)*4/5<6)=0;");
        for (int code = 0; code < 256; code++) {
            char c = (char) code;
            boolean digit = c >= '0' && c <= '9';
            boolean blank = code == 32 || code == 10;
            boolean good = digit || SIGNS_OF_SUMS.indexOf(c) >= 0;
            faulty("forgets 1" + c + "1;", good ? 0 : 1, good ? NONE : blank || c == ';' ? 10 : 9);
        }

        sentence("blanks (32, 10) between them count for nothing.");
        right(" \n\n song \n 1 \n 2 \n ; \n ");
        right("forgets\n1\n+\n( 2 )\n;\n");
        for (int code = 0; code < 256; code++) {
            boolean blank = code == 32 || code == 10;
            faulty(String.valueOf((char) code), blank ? 0 : 1, blank ? NONE : 0);
            boolean first = code >= '0' && code <= '9'; // then it is a second NOTE
            faulty("song 1 " + (char) code + " ;", blank || first ? 0 : 1,
                blank || first ? NONE : code == ';' ? 9 : 7);
        }
    }

    private static void lines() {
        sentence("In quotes is what stands there, [ ] perhaps, * any number of times, | one of some.");
        right("forgets 1;");
        right("forgets 1<2;");
        right("forgets 1" + "+1*2".repeat(150) + ";");
        right("forgets 1" + " and 1 or 1".repeat(60) + ";");
        faulty("forgets 1<2<3;", 1, 11);
        faulty("forgets 1=2<3;", 1, 11);

        sentence("MARSH: LINE*.");
        right("");
        right("\n");
        right("forgets 1;fills 2;person 1 2;song 3;");
        GapSongs x = of("");
        due("no SONGS", x.count(0), 0);
        due("nobody", x.count(1), 0);

        sentence("LINE: ('song' NOTE NOTE* | 'person' MEMORY WIT | 'has' PERSON SONG NUMBER | 'seeks' PERSON SONG PERSON"
            + " | ('forgets' | 'fills') EXPR) ';', all in capitals but EXPR being NUMBERS.");
        String two = "song 1;person 1 1;person 1 1;"; // 29 bytes
        faulty("person;", 1, 6);
        faulty("person 1;", 1, 8);
        right("person 1 2;");
        faulty("person 1 2 3;", 1, 11);
        faulty(two + "has;", 1, 32);
        faulty(two + "has 0;", 1, 34);
        faulty(two + "has 0 0;", 1, 36);
        right(two + "has 0 0 0;");
        faulty(two + "has 0 0 0 0;", 1, 39);
        faulty(two + "seeks;", 1, 34);
        faulty(two + "seeks 0;", 1, 36);
        faulty(two + "seeks 0 0;", 1, 38);
        right(two + "seeks 0 0 1;");
        faulty(two + "seeks 0 0 1 0;", 1, 41);
        faulty("forgets;", 1, 7);
        faulty("fills;", 1, 5);
        faulty("forgets 1 1;", 1, 10);
        faulty("song 1;;", 1, 7);
        faulty("song 1 person 1 1;", 1, 7);
        faulty("song x;", 1, 5);
        faulty("person (1) 1;", 1, 7);
        faulty(two + "has 0 0 day;", 1, 37);
        faulty("song 1-1;", 1, 6);
    }

    private static void gapsAtFirst() {
        sentence("The NUMBER of 'has' (0 to 255) tells which NOTES are GAPS at first (bits;");
        String eight = "song 1 2 3 4 5 6 7 8;person 0 0;";
        due("0", sungBy(of(eight + "has 0 0 0;"), 0, 0), "12345678");
        for (int place = 0; place < 8; place++) {
            due("one GAP", of(eight + "has 0 0 " + (1 << place) + ";").has(0, 0, 1), 1 << place);
            due("one NOTE", of(eight + "has 0 0 " + (255 - (1 << place)) + ";").has(0, 0, 1), 255 - (1 << place));
        }
        faulty(eight + "has 0 0 256;", 2, 40);
        faulty(eight + "has 0 0 9999;", 2, 40);

        sentence("bits of NOTES that there aren't count for nothing), all others being as in THE FIRST;");
        String three = "song 1 2 3;person 0 0;";
        due("248", sungBy(of(three + "has 0 0 248;"), 0, 0), "123");
        due("8", of(three + "has 0 0 8;").count(4), 0);
        due("250", sungBy(of(three + "has 0 0 250;"), 0, 0), "1_3");

        sentence("who would have GAPS alone has it not.");
        due("7 of 3 NOTES", sungBy(of(three + "has 0 0 7;"), 0, 0), "-");
        due("255 of 3 NOTES", sungBy(of(three + "has 0 0 255;"), 0, 0), "-");
        due("255 of 8 NOTES", sungBy(of(eight + "has 0 0 255;"), 0, 0), "-");
        due("1 of 1 NOTE", sungBy(of("song 1;person 0 0;has 0 0 1;"), 0, 0), "-");
        due("GAPS of what one hasn't", of(three + "has 0 0 7;").count(4), 0);
    }

    private static void expressions() {
        sentence("EXPR: AND ('or' AND)*. AND: NOT ('and' NOT)*. NOT: 'not' NOT | SUM [('<' | '=') SUM]."
            + " SUM: PRODUCT (('+' | '-') PRODUCT)*. PRODUCT: PART (('*' | '/') PART)*. PART: NUMBER | VALUE | '(' EXPR ')'.");
        expr("1 or 1 and 0", 1);
        expr("(1 or 1) and 0", 0);
        expr("not 0 and 0", 0);
        expr("not (0 and 0)", 1);
        expr("not 1=0", 1);
        expr("(not 1)=1", 0);
        expr("1+1<3", 1);
        expr("1+(1<3)=2", 1);
        expr("2+3*4=14", 1);
        expr("(2+3)*4=20", 1);
        expr("not not not not not not 0", 0);
        expr("(((((5)))))", 1);

        sentence("From the left;");
        expr("9-4-3=2", 1);
        expr("9-4+3=8", 1);
        expr("8/4/2=1", 1);
        expr("7/2*2=6", 1);
        expr("0 or 1 and 0 or 1", 1);

        sentence("ints that wrap,");
        expr("2147*1000*1000+483*1000+647+1<0", 1);
        expr("0-2147*1000*1000-483*1000-648-1=2147*1000*1000+483*1000+647", 1);
        expr("256*256*256*256=0", 1);

        sentence("/ cut down to 0, by 0 gives 0;");
        expr("7/2=3", 1);
        expr("(0-7)/2=0-3", 1);
        expr("7/(0-2)=0-3", 1);
        expr("(0-1)/2=0", 1);
        expr("7/0=0", 1);
        expr("0/0=0", 1);
        expr("(0-2147*1000*1000-483*1000-648)/(0-1)=0-2147*1000*1000-483*1000-648", 1);

        sentence("tests, not, and, or are 1 or 0 (what isn't 0 holds).");
        expr("(2<3)=1", 1);
        expr("(3<3)=0", 1);
        expr("(3<2)=0", 1);
        expr("(3=3)=1", 1);
        expr("(3=4)=0", 1);
        expr("(not 0)=1", 1);
        expr("(not 5)=0", 1);
        expr("(not (0-5))=0", 1);
        expr("(5 and 7)=1", 1);
        expr("(5 and 0)=0", 1);
        expr("((0-1) and (0-2))=1", 1);
        expr("(0 or 9)=1", 1);
        expr("(0 or (0-9))=1", 1);
        expr("(0 or 0)=0", 1);
    }

    private static void valuesOfForgets() {
        sentence("VALUES of FORGETS, for a PERSON and a NOTE of a SONG that one HAS: 'memory', 'wit', 'note' (0 to 9),"
            + " 'place' (of the NOTE in the SONG, 0 on), 'gaps' (how many GAPS one has in it),"
            + " 'with' (how many others HAVE the SONG), 'day';");
        String eight = "song 0 1 2 3 4 5 6 9;person 0 9;person 9 0;has 0 0 0;has 1 0 127;";
        due("memory 0", behind(eight + "forgets memory=0;", 0), "_1234569");
        due("memory 9", behind(eight + "forgets memory=9;", 1), "-");
        due("wit 9", behind(eight + "forgets wit=9;", 0), "_1234569");
        due("wit 0", behind(eight + "forgets wit=0;", 1), "-");
        due("note 0", behind(eight + "forgets note=0;", 0), "_1234569");
        due("note 9", behind(eight + "forgets note=9;", 0), "0123456_");
        due("place 0", behind(eight + "forgets place=0;", 0), "_1234569");
        due("place 7", behind(eight + "forgets place=7;", 0), "0123456_");
        due("place 8", behind(eight + "forgets place=8;", 0), "01234569");
        due("gaps 0", behind(eight + "forgets gaps=0;", 0), "_1234569");
        due("gaps 0 alone", behind(eight + "forgets gaps=0;", 1), "_______9");
        due("gaps 7", behind(eight + "forgets gaps=7;", 1), "-");
        due("with 1", behind(eight + "forgets with=1;", 0), "_1234569");
        due("with 0", behind("song 1 2;person 0 0;person 0 0;has 0 0 0;has 1 0 3;forgets with=0;", 0), "_2");
        String seven = "song 1 2;" + "person 0 0;".repeat(7);
        for (int p = 0; p < 7; p++) {
            seven += "has " + p + " 0 0;";
        }
        due("with 6", behind(seven + "forgets with=6;", 6), "_2");
        due("day 0", behind(eight + "forgets day=0;", 0), "_1234569");
        GapSongs x = new GapSongs();
        for (int i = 0; i < 499; i++) {
            x.days(20);
        }
        due("the last DAY but 20", x.count(2), 9980);
        due("the text begins with DAY 0", tell(x, "song 1 2;person 0 0;has 0 0 0;forgets day=0;"), 0);
        due("DAY 0", x.then(0, 0, 1, 1), 1);
    }

    /** The first SONG as one has it behind one DAY. */
    private static String behind(String text, int person) {
        GapSongs x = of(text);
        x.days(1);
        return sungBy(x, person, 0);
    }

    private static void valuesOfFills() {
        sentence("of FILLS, for who learns and a GAP: 'wit', 'place', 'before' (the NOTE ahead of it as one has it then,"
            + " 0 at the beginning), 'after' (the NOTE behind it as the teacher has it, 0 for a GAP and at the end), 'day'.");
        String two = "person 1 9;person 2 6;"; // 1 learns of 0
        due("wit of who learns", learnt("song 1 2;" + two + "has 0 0 1;fills wit;"), "62");
        due("place", learnt("song 9 9 9 9 9 9 9 9;" + two + "has 0 0 129;fills place;"), "09999997");
        due("before at the beginning", learnt("song 5 7;" + two + "has 0 0 1;fills before+1;"), "17");
        due("before behind a NOTE", learnt("song 5 7;" + two + "has 0 0 2;fills before+1;"), "56");
        due("before behind a GAP", learnt("song 5 7 1;" + two + "has 0 0 6;fills before+1;"), "567");
        due("after ahead of a NOTE", learnt("song 5 7;" + two + "has 0 0 1;fills after+1;"), "87");
        due("after ahead of a GAP", learnt("song 5 7 1;" + two + "has 0 0 3;fills after+1;"), "121");
        due("after at the end", learnt("song 5 7;" + two + "has 0 0 2;fills after+1;"), "51");
        due("after at the end of 8", learnt("song 5 5 5 5 5 5 5 5;" + two + "has 0 0 128;fills after+1;"), "55555551");
        due("a NOTE of 0 ahead and behind", learnt("song 0 5 0;" + two + "has 0 0 2;fills before+after+4;"), "040");
        due("day 0", learnt("song 5 5;" + two + "has 0 0 2;fills day+3;"), "53");
        GapSongs x = of("song 5 5;" + two + "has 0 0 2;forgets 0;fills day-9990;");
        for (int i = 0; i < 499; i++) {
            x.days(20);
        }
        x.days(19);
        x.learn(1, 0, 0);
        due("day 9999", sungBy(x, 1, 0), "59");
    }

    private static void firstFault() {
        sentence("FAULTS, the first along the text,");
        faulty("song 10;song;", 2, 5);
        faulty("song;song 10;", 1, 4);
        faulty("has 0 0 999;", 3, 4);
        faulty("person 1 1;has 0 0 999;", 3, 17);
        faulty("forgets x;forgets 1;", 3, 8);
        faulty("forgets 1;forgets x;", 5, 10);

        sentence("at a TOKEN's first byte,");
        faulty("  persons 1 1;", 1, 2);
        faulty("song 1 12345;", 2, 7);
        faulty("forgets  daily;", 3, 9);
        faulty("person 1 1;\n\nhas  0 0 0;", 3, 20);

        sentence("of one TOKEN the least:");
        faulty("12345;", 1, 0);
        faulty("forgets 1 12345;", 1, 10);
        faulty("song 1;person 1 1;has 12345 0 0;", 2, 22);
        faulty("song 1;person 1 1;has 0 12345 0;", 2, 24);
        faulty("song 1;person 1 1;seeks 0 0 12345;", 2, 28);
        faulty("forgets ((((((daily))))));", 2, 14);
        faulty("song 1 2 3 4 5 6 7 8 12345;", 2, 21);
    }

    private static void faultOne() {
        sentence("1 a TOKEN that can't stand there, or is none (the text's length where it ends too soon);");
        faulty("day;", 1, 0);
        faulty("7;", 1, 0);
        faulty("(;", 1, 0);
        faulty("song 1;?", 1, 7);
        faulty("song 1 ?;", 1, 7);
        faulty("forgets ?;", 1, 8);
        faulty("forgets 1 ?;", 1, 10);
        faulty("forgets 1 song;", 1, 10);
        faulty("forgets 1 (2);", 1, 10);
        faulty("forgets 1);", 1, 9);
        faulty("forgets ();", 1, 9);
        faulty("forgets (1;", 1, 10);
        faulty("forgets 1++1;", 1, 10);
        faulty("forgets 1 not 1;", 1, 10);
        faulty("forgets -1;", 1, 8);
        String[] words = ("song 1 2 ; person 1 2 ; person 3 4 ; has 0 0 1 ; seeks 1 0 0 ; forgets not ( day + 1 ) * 2 < 3"
            + " or wit = 1 and 4 - 2 / 1 ; fills before ; ").split(" ");
        StringBuilder text = new StringBuilder();
        for (String word : words) {
            text.append(word);
            boolean ended = word.equals(";");
            faulty(text.toString(), ended ? 0 : 1, ended ? NONE : text.length());
            text.append(' ');
            faulty(text.toString(), ended ? 0 : 1, ended ? NONE : text.length());
        }
    }

    private static void faultTwo() {
        sentence("2 one that can, but is too much: a NUMBER of 5 digits or more, or (not in an EXPR) not as told,");
        String two = "song 1;person 1 1;person 1 1;"; // 29 bytes
        right("song 0009;");
        faulty("song 00009;", 2, 5);
        faulty("song 99999999999999999999999;", 2, 5);
        faulty("song 4294967296;", 2, 5);
        faulty("song 10;", 2, 5);
        faulty("song 1 9999;", 2, 7);
        faulty("person 00000 0;", 2, 7);
        faulty("person 10 0;", 2, 7);
        faulty("person 0 00000;", 2, 9);
        faulty("person 0 10;", 2, 9);
        faulty(two + "has 00000 0 0;", 2, 33);
        faulty(two + "has 0 00000 0;", 2, 35);
        faulty(two + "has 0 0 00000;", 2, 37);
        faulty(two + "has 0 0 256;", 2, 37);
        right(two + "has 0 0 0255;");
        faulty(two + "seeks 00000 0 1;", 2, 35);
        faulty(two + "seeks 0 00000 1;", 2, 37);
        faulty(two + "seeks 0 0 00001;", 2, 39);
        right("forgets 9999;fills 9999;");
        faulty("forgets 00000;", 2, 8);
        faulty("fills 1+10000;", 2, 8);
        faulty("fills (4294967297);", 2, 7);

        sentence("the first TOKEN of the 6th SONG, the 8th PERSON, the 9th NOTE of a SONG,");
        faulty("song 1;".repeat(5) + "song", 2, 35);
        faulty("song 1;".repeat(5) + "song x", 2, 35);
        faulty("song 1;".repeat(5) + "person 1 1; song 1;", 2, 47);
        faulty("person 1 1;".repeat(7) + "person", 2, 77);
        faulty("person 1 1;".repeat(7) + "song 1;person 1 1;", 2, 84);
        faulty("song 1 2 3 4 5 6 7 8 9;", 2, 21);
        faulty("song 1 2 3 4 5 6 7 8 9 10;", 2, 21);
        faulty("song 1 2 3 4 5 6 7 8 x;", 1, 21);
        faulty("song 1 2 3 4 5 6 7 8", 1, 20);
        right("song 1 2 3 4 5 6 7 8;".repeat(5));
    }

    private static void faultTwoOfRules() {
        sentence("of an EXPR within 6 others (a NUMBER, any word, a parenthesis),");
        right("forgets (((((1)))));");
        right("forgets (((((day)))))*(((((1)))));");
        right("forgets (((((not 1 and 2)))));");
        faulty("forgets ((((((1))))));", 2, 14);
        faulty("forgets ((((((10000))))));", 2, 14);
        faulty("forgets ((((((day))))));", 2, 14);
        faulty("forgets ((((((not 1))))));", 2, 14);
        faulty("forgets ((((((or", 2, 14);
        faulty("forgets ((((((x", 2, 14);
        faulty("forgets (((((((1)))))));", 2, 14);
        faulty("forgets (((((( (", 2, 15);
        faulty("forgets (((((()", 1, 14);
        faulty("forgets ((((((-1", 1, 14);
        faulty("forgets ((((((?", 1, 14);
        faulty("forgets ((((((", 1, 14);
        faulty("fills (1+(2+(3+(4+(5+(6", 2, 22);
        right("fills (1+(2+(3+(4+(5)))));");

        sentence("the seventh 'not' side by side;");
        right("forgets not not not not not not 1;");
        faulty("forgets not not not not not not not 1;", 2, 32);
        faulty("forgets not not not not not not not", 2, 32);
        faulty("forgets 1 and not not not not not not not 1;", 2, 38);
        right("forgets not not not not not not (not not not not not not 1);");
        right("forgets not not not not not not 1 and not not not not not not 1;");
        faulty("forgets not not not not not not or;", 3, 32);
    }

    private static void faultThree() {
        sentence("3 any word where a PART must stand that is no VALUE of this EXPR,");
        right("forgets memory+wit+note+place+gaps+with+day;");
        right("fills wit+place+before+after+day;");
        String[] strange = {"before", "after", "song", "person", "has", "forgets", "or", "and", "x", "days", "memor"};
        for (String word : strange) {
            faulty("forgets " + word + ";", 3, 8);
            faulty("forgets 1+" + word + ";", 3, 10);
        }
        for (String word : new String[] {"memory", "note", "gaps", "with", "or", "and", "fills", "y"}) {
            faulty("fills " + word + ";", 3, 6);
            faulty("fills (" + word + ");", 3, 7);
        }
        faulty("forgets not and;", 3, 12);
        faulty("forgets 1<not 1;", 3, 10);
        faulty("forgets 1*not 1;", 3, 10);
        faulty("forgets 1 or or;", 3, 13);

        sentence("a PERSON, a SONG that isn't told ahead;");
        String two = "song 1;person 1 1;person 1 1;"; // 29 bytes
        right(two + "has 1 0 0;");
        faulty(two + "has 2 0 0;", 3, 33);
        faulty(two + "has 7 0 0;", 3, 33);
        faulty(two + "has 9999 0 0;", 3, 33);
        faulty(two + "has 0 1 0;", 3, 35);
        faulty(two + "has 0 5 0;", 3, 35);
        faulty(two + "has 0 9999 0;", 3, 35);
        faulty(two + "seeks 2 0 1;", 3, 35);
        faulty(two + "seeks 0 1 1;", 3, 37);
        faulty(two + "seeks 0 0 2;", 3, 39);
        faulty("person 1 1;has 0 0 0;song 1;", 3, 17);
        faulty("song 1;has 0 0 0;person 1 1;", 3, 11);
        faulty("song 1;person 1 1;seeks 0 0 1;person 1 1;", 3, 28);
    }

    private static void faultFour() {
        String two = "song 1;song 2;person 1 1;person 1 1;"; // 36 bytes
        sentence("4 the SONG of a 'has', if it was told of that PERSON by a 'has' before,");
        faulty(two + "has 0 1 0;has 0 1 0;", 4, 52);
        faulty(two + "has 0 1 1;has 0 1 0;", 4, 52);
        faulty(two + "has 0 1 0;has 0 1 x;", 4, 52);
        right(two + "has 0 0 0;has 0 1 0;has 1 0 0;has 1 1 0;");
        right(two + "seeks 0 1 1;has 0 1 0;");

        sentence("the first PERSON of a 'seeks', if one SEEKS already,");
        faulty(two + "seeks 0 0 1;seeks 0 0 1;", 4, 54);
        faulty(two + "seeks 0 0 1;seeks 0 1 1;", 4, 54);
        faulty(two + "seeks 0 0 1;seeks 0 9 9;", 4, 54);
        right(two + "seeks 0 0 1;seeks 1 0 0;");

        sentence("the second one, if it is the first;");
        faulty(two + "seeks 0 0 0;", 4, 46);
        faulty(two + "seeks 1 1 1;", 4, 46);
    }

    private static void faultFive() {
        sentence("5 a second 'forgets', 'fills'.");
        right("forgets 1;fills 1;");
        faulty("forgets 1;forgets 1;", 5, 10);
        faulty("forgets 1;fills 1;forgets", 5, 18);
        faulty("fills 1;fills 1;", 5, 8);
        faulty("fills 1;forgets 1;fills x;", 5, 18);
    }
}
