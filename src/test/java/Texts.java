import java.util.Random;

/** Makes texts of a MARSH, right ones and, by small changes, wrong ones. */
final class Texts {
    private static final String[] OF_FORGETS = {"memory", "wit", "note", "place", "gaps", "with", "day"};
    private static final String[] OF_FILLS = {"wit", "place", "before", "after", "day"};
    private static final String[] PIECES = {"song", "person", "has", "seeks", "forgets", "fills", "not", "and", "or",
        ";", "(", ")", "+", "-", "*", "/", "<", "=", "0", "1", "3", "9", "10", "255", "256", "9999", "10000", "00001",
        "memory", "before", "day", "x", "!", "A", "\t", " ", "\n", "((((((", ")))", "not not not", "wit", "\u00e9"};

    private final Random random;

    Texts(Random random) {
        this.random = random;
    }

    private String blank() {
        return random.nextInt(8) == 0 ? "\n " : " ";
    }

    private String oneOf(String[] all) {
        return all[random.nextInt(all.length)];
    }

    String expr(boolean forgets, int depth) {
        StringBuilder b = new StringBuilder();
        int terms = 1 + random.nextInt(3);
        for (int i = 0; i < terms; i++) {
            if (i > 0) {
                b.append(oneOf(new String[] {"+", "-", "*", "/", "<", "=", " and ", " or ", "+", "*", "-"}));
            }
            if (random.nextInt(12) == 0 && (i == 0 || b.charAt(b.length() - 1) == ' ')) {
                b.append("not ");
            }
            int kind = random.nextInt(10);
            if (kind < 4) {
                b.append(oneOf(forgets ? OF_FORGETS : OF_FILLS));
            } else if (kind < 8 || depth >= 4) {
                b.append(random.nextInt(6) == 0 ? random.nextInt(10000) : random.nextInt(10));
            } else {
                b.append('(').append(expr(forgets, depth + 1)).append(')');
            }
        }
        return b.toString();
    }

    /** One long SONG of few NOTES, and many who have it with gaps or not at all: lessons are many and often alike. */
    private String crowd() {
        StringBuilder b = new StringBuilder("song");
        int notes = 4 + random.nextInt(5);
        for (int i = 0; i < notes; i++) {
            b.append(' ').append(random.nextInt(3));
        }
        b.append(';');
        int people = 4 + random.nextInt(4);
        for (int p = 0; p < people; p++) {
            b.append("person ").append(6 + random.nextInt(4)).append(' ').append(random.nextInt(10)).append(';');
            if (random.nextBoolean()) {
                b.append("has ").append(p).append(" 0 ").append(1 + random.nextInt(255)).append(';');
            }
        }
        if (random.nextBoolean()) {
            b.append("forgets ").append(random.nextBoolean() ? "0" : "memory<day and gaps<3").append(';');
        }
        if (random.nextBoolean()) {
            b.append("fills ").append(expr(false, 2)).append(';');
        }
        return b.toString();
    }

    /** Most of these are right; a test in a test ("1<2<3") may come out wrong, which is as good. */
    String any() {
        if (random.nextInt(5) == 0) {
            return crowd();
        }
        StringBuilder b = new StringBuilder();
        int songs = 1 + random.nextInt(random.nextInt(4) == 0 ? 5 : 3);
        int people = 1 + random.nextInt(random.nextInt(4) == 0 ? 7 : 5);
        if (random.nextInt(20) == 0) {
            songs = 0;
        }
        if (random.nextInt(20) == 0) {
            people = 0;
        }
        int high = 1 + random.nextInt(10);
        for (int s = 0; s < songs; s++) {
            b.append("song");
            int notes = 1 + random.nextInt(8);
            for (int i = 0; i < notes; i++) {
                b.append(blank()).append(random.nextInt(high));
            }
            b.append(';');
        }
        boolean steady = random.nextBoolean();
        for (int p = 0; p < people; p++) {
            b.append("person").append(steady ? 5 + random.nextInt(5) : random.nextInt(10)).append(blank());
            b.append(random.nextInt(10)).append(';');
        }
        for (int p = 0; p < people; p++) {
            for (int s = 0; s < songs; s++) {
                if (random.nextInt(5) < 3) {
                    b.append("has ").append(p).append(blank()).append(s).append(blank());
                    b.append(random.nextInt(3) == 0 ? 0 : random.nextInt(256)).append(random.nextInt(9) == 0 ? " ;" : ";");
                }
            }
            if (people > 1 && songs > 0 && random.nextBoolean()) {
                int other = (p + 1 + random.nextInt(people - 1)) % people;
                b.append("seeks ").append(p).append(' ').append(random.nextInt(songs)).append(' ').append(other).append(';');
            }
        }
        if (random.nextInt(3) > 0) {
            b.append("forgets ").append(expr(true, 0)).append(";");
        }
        if (random.nextInt(3) > 0) {
            b.append("fills ").append(expr(false, 0)).append(";");
        }
        return b.length() <= 700 ? b.toString() : b.substring(0, 700);
    }

    /** A line told once more, or in another line's place: who and what is told twice, or behind its use. */
    private String linesChanged(String text) {
        String[] lines = text.split(";");
        int from = random.nextInt(lines.length);
        int to = random.nextInt(lines.length);
        String moved = lines[from];
        if (random.nextBoolean()) {
            lines[from] = lines[to];
            lines[to] = moved;
        } else {
            lines[to] = lines[to] + ";" + moved;
        }
        String all = String.join(";", lines) + ";";
        return all.length() <= 700 ? all : all.substring(0, 700);
    }

    String changed(String text) {
        if (random.nextInt(3) == 0) {
            return linesChanged(text);
        }
        StringBuilder b = new StringBuilder(text);
        int changes = 1 + random.nextInt(3);
        for (int i = 0; i < changes; i++) {
            int at = random.nextInt(b.length() + 1);
            switch (random.nextInt(4)) {
                case 0:
                    b.insert(at, oneOf(PIECES));
                    break;
                case 1:
                    b.delete(at, Math.min(b.length(), at + 1 + random.nextInt(3)));
                    break;
                case 2:
                    b.replace(at, Math.min(b.length(), at + 1), oneOf(PIECES));
                    break;
                default:
                    int end = Math.min(b.length(), at + random.nextInt(40));
                    b.insert(at, b.substring(at, end));
                    break;
            }
        }
        return b.length() <= 700 ? b.toString() : b.substring(0, 700);
    }

    /** Nothing but pieces: far from any grammar, or near it by chance. */
    String wild() {
        StringBuilder b = new StringBuilder(random.nextBoolean() ? "song 1 2;person 3 4;" : "");
        b.append(random.nextBoolean() ? "forgets " : "");
        int many = random.nextInt(30);
        for (int i = 0; i < many; i++) {
            b.append(oneOf(PIECES)).append(random.nextInt(3) == 0 ? "" : " ");
        }
        return b.length() <= 700 ? b.toString() : b.substring(0, 700);
    }
}
