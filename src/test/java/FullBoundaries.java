/** Everything as full as the document lets it be: 5 SONGS of 8 NOTES, 7 PEOPLE who HAVE them all and SEEK. */
final class FullBoundaries extends Boundaries {
    private FullBoundaries() {
    }

    static void run() {
        told();
        taught();
    }

    /** SONG s is s 1 2 3 4 5 6 7; who p is has a GAP at the place p and s, MOD 8. */
    private static String text(String rules) {
        StringBuilder b = new StringBuilder();
        for (int s = 0; s < 5; s++) {
            b.append("song ").append(s).append(" 1 2 3 4 5 6 7;");
        }
        for (int p = 0; p < 7; p++) {
            b.append("person ").append(p).append(" ").append(9 - p).append(";");
        }
        for (int p = 0; p < 7; p++) {
            for (int s = 0; s < 5; s++) {
                b.append("has ").append(p).append(" ").append(s).append(" ").append(1 << (p + s) % 8).append(";");
            }
        }
        for (int p = 0; p < 7; p++) {
            b.append("seeks ").append(p).append(" 4 ").append((p + 1) % 7).append(";");
        }
        return b + rules;
    }

    private static void told() {
        sentence("SONGS 0, 1 .. (at most 5)");
        GapSongs x = of(text("forgets 0;"));
        int[] counts = {5, 7, 0, 0, 35, 127};
        for (int what = 0; what < counts.length; what++) {
            due("count(" + what + ")", x.count(what), counts[what]);
        }
        for (int s = 0; s < 5; s++) {
            due("the first NOTE of " + s, x.first(s, 0), s);
            due("the last NOTE of " + s, x.first(s, 7), 7);
            due("who HAS " + s, x.song(s, 1), 127);
            due("who HAS " + s + " WHOLE", x.song(s, 2), 0);
            due("NEAREST of " + s, x.song(s, 3), 0);
            due("KEPT of " + s, x.kept(s, 100, 0), 1 << (s + 7) % 8);
            due("READY of " + s, x.kept(s, 100, 1), 127);
            due("AGREED of " + s, x.agreed(s, 0), s);
            due("LESSONS of " + s, x.lessons(s, 0), 0);
            due("LOST of " + s, x.lost(s), NONE);
        }
        for (int p = 0; p < 7; p++) {
            due("MEMORY of " + p, x.person(p, 0), p);
            due("WIT of " + p, x.person(p, 1), 9 - p);
            due("SONGS of " + p, x.person(p, 2), 31);
            due("sought of " + p, x.person(p, 3), 4);
            due("of whom " + p, x.person(p, 4), (p + 1) % 7);
            for (int s = 0; s < 5; s++) {
                due("GAPS of " + p + " in " + s, x.has(p, s, 1), 1 << (p + s) % 8);
                due("TEACHER of " + p + " in " + s, x.has(p, s, 3), NONE);
            }
        }
        due("MOST", x.most(100), 0);
        due("RAREST", x.later(100, 0), 0);
        due("OTHERWISE", x.otherwise(0), 63);
        due("HEAR NEXT", x.ask(0), 0);
        due("HEAR NEXT: 5 GAPS by all", x.ask(1), 1);
        due("WINTERS", x.winters(6, 4, 5, 5), 0);
        // who gives it UP LEARNS 8 NOTES anew, 5 of 6 and 6 of 0; if both do, 6 has no GAP to teach 5 with
        due("GAME: 0 1 and 1 0", x.game(5, 6, 4, 0), 2);
        due("GAME: 0 1 and 1 0", x.game(5, 6, 4, 1), 1);
        due("days(20)", x.days(20), 20);
        due("GAPS", x.count(4), 35);
        GapSongs y = of(text("forgets with=6 and place=7;"));
        y.days(1);
        due("one NOTE of each, but where there is a GAP: 3, 4, 5, 6 of one SONG each", y.count(4), 35 + 35 - 4);
    }

    private static void taught() {
        sentence("PEOPLE 0, 1 .. (at most 7)");
        GapSongs x = of(text("forgets 6<with;"));
        for (int s = 0; s < 5; s++) {
            for (int p = 0; p < 7; p++) {
                if (p != s) {
                    x.giveUp(p, s);
                    due("LIKE of " + p + " in " + s, x.learn(p, s, s), s == 0 ? 8 : 7);
                }
            }
        }
        due("ACTS", x.count(6), 40);
        due("who SEEKS", x.count(5), 127);
        due("GAPS", x.count(4), 5);
        for (int s = 0; s < 5; s++) {
            int gap = 2 * s % 8;
            due("who HAS " + s, x.song(s, 1), 127);
            due("who HAS " + s + " WHOLE", x.sung(s, 100, 0), 127 - (1 << s));
            due("READY of " + s, x.kept(s, 100, 1), 1 << s);
            due("KEPT of " + s, x.kept(s, 100, 0), 255 - (1 << gap));
            due("PUPILS in " + s, x.has(s, s, 4), 127 - (1 << s));
            due("NEAREST of " + s, x.song(s, 4), 0);
            due("AGREED of " + s + " at the GAP", x.agreed(s, gap), s == 4 || s == 0 ? 0 : s == 1 ? 1 : gap - 1);
            for (int p = 0; p < 7; p++) {
                due("TEACHER of " + p + " in " + s, x.has(p, s, 3), p == s ? NONE : s);
                due("GENERATION of " + p + " in " + s, x.has(p, s, 5), p == s ? 0 : 1);
                due("TAUGHT BY of " + p + " in " + s, x.has(p, s, 6), p == s ? 0 : 1 << s);
                due("GAPS of " + p + " in " + s, x.has(p, s, 1), p == s ? 1 << gap : 0);
                due("HIGHEST of " + p + " in " + s, x.of(p, s, 2), 7);
            }
        }
        due("RAREST", x.later(100, 0), 0);
        due("MOST", x.most(100), 0);
        due("days(1)", x.days(1), 1);
        due("nothing is forgotten", x.count(4), 5);
    }
}
