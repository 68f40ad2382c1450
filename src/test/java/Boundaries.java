import java.util.Arrays;

/** A part of the tests that go by the document's sentences: each check belongs to the sentence quoted last. */
abstract class Boundaries extends Checks {
    private static Document document = null;

    /** Without a document the sentences are only names of the checks. */
    static void readAlong(Document read) {
        document = read;
    }

    static void sentence(String words) {
        about("\"" + words + "\"");
        if (document != null && !document.quote(words)) {
            report("these words do not stand in the document");
        }
    }

    /** All that can be asked of what is so now, but for STATUS and the tape. */
    static String all(GapSongs x) {
        StringBuilder b = new StringBuilder();
        int songs = x.count(0);
        int people = x.count(1);
        for (int what = 0; what < 8; what++) {
            b.append(x.count(what)).append(' ');
        }
        for (int p = 0; p < people; p++) {
            b.append("| ").append(x.person(p, 3)).append(' ').append(x.person(p, 4)).append(' ');
            for (int s = 0; s < songs; s++) {
                b.append(x.has(p, s, 3)).append(' ').append(sungBy(x, p, s)).append(' ');
            }
        }
        b.append("| ").append(x.otherwise(0)).append(x.otherwise(2));
        lookFar(x);
        return b.toString();
    }

    /** A look ahead must leave nothing behind: what is asked next is asked of now. */
    static void lookFar(GapSongs x) {
        x.most(100);
    }

    /** The NOTES that one has of a SONG, a '_' for a GAP; '-', if one hasn't it. */
    static String sungBy(GapSongs x, int person, int song) {
        if (x.has(person, song, 0) == 0) {
            return "-";
        }
        StringBuilder b = new StringBuilder();
        for (int place = 0; place < x.song(song, 0); place++) {
            int note = x.note(person, song, place, 0);
            b.append(note == NONE ? "_" : String.valueOf(note));
        }
        return b.toString();
    }

    /** The first SONG as 1 LEARNS it of 0. */
    static String learnt(String text) {
        GapSongs x = of(text);
        x.learn(1, 0, 0);
        return sungBy(x, 1, 0);
    }

    /**
     * One SONG, and a PERSON for each row who has it so: a '_' for a GAP, "-" for who hasn't it. NOTES that are other
     * than THE FIRST's are hummed, so that at least one must be like it. FORGETS and FILLS stand in the rest.
     */
    static GapSongs singers(String first, String rest, String... rows) {
        StringBuilder text = new StringBuilder("song " + String.join(" ", first.split("")) + ";");
        text.append("person 0 0;".repeat(rows.length));
        for (int p = 0; p < rows.length; p++) {
            int gaps = 0;
            for (int place = 0; place < rows[p].length(); place++) {
                gaps |= rows[p].charAt(place) == first.charAt(place) ? 0 : 1 << place;
            }
            text.append(rows[p].equals("-") ? "" : "has " + p + " 0 " + gaps + ";");
        }
        GapSongs x = of(text + rest);
        for (int p = 0; p < rows.length; p++) {
            for (int place = 0; place < rows[p].length(); place++) {
                char note = rows[p].charAt(place);
                if (note >= '0' && note <= '9' && note != first.charAt(place)) {
                    x.hum(p, 0, place, note - '0');
                }
            }
            due("the SONG of " + p, sungBy(x, p, 0), rows[p]);
        }
        lookFar(x);
        return x;
    }

    /** A call that is refused answers so, changes nothing, and counts in this STATUS alone (NONE: in none). */
    static void refused(GapSongs x, String want, int status, String name, int... arguments) {
        String before = all(x);
        int[] counts = {x.count(9), x.count(10), x.count(11)};
        String call = name + Arrays.toString(arguments);
        due(call, ask(x, name, arguments), want);
        due("what is so behind " + call, all(x), before);
        for (int i = 0; i < 3; i++) {
            due("STATUS " + i + " behind " + call, x.count(9 + i), counts[i] + (i == status ? 1 : 0));
        }
    }
}
