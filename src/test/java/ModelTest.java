import java.util.ArrayList;
import java.util.Arrays;
import java.util.List;
import java.util.Random;

/** Asks GapSongs and the Model the same by chance (always the same chance), and tells where they differ. */
public final class ModelTest extends Checks {
    /**
     * A call and what its arguments are: p person, s song, l place, d days up to 100, D days up to 20, n note,
     * k days of winters, t tenths, o a person or nobody, i any int, m days of an act, a digit or A so many whats.
     */
    private static final String[] CALLS = {
        "fault", "count A", "song s5", "person p5", "first sl", "has ps7", "days m", "learn pso", "seek pso",
        "giveUp ps", "hum psln", "undo", "then psd3", "note psld", "sung sd2", "lost s", "learnt ps", "most d",
        "both pps2", "toLearn ps2", "lessons s2", "lesson ps", "hear pslDn", "forget", "otherwise 3", "ask 2",
        "winters pskt", "game pps2", "years id3", "of ps3", "kept sd2", "later d3", "agreed sl", "image", "restore"};
    private static final int[] ODD = {-1, -2, 7, 8, 12, 101, 1000, Integer.MAX_VALUE, Integer.MIN_VALUE};

    private final Random random;
    private final List<String> told = new ArrayList<>();
    private GapSongs real;
    private Model model;
    private int people;
    private int songs;

    private ModelTest(long seed) {
        random = new Random(seed);
    }

    private int argument(char kind) {
        if (random.nextInt(40) == 0) {
            return ODD[random.nextInt(ODD.length)];
        }
        switch (kind) {
            case 'p': return random.nextInt(Math.max(1, people));
            case 'o': return random.nextInt(6) == 0 ? -1 : random.nextInt(Math.max(1, people));
            case 's': return random.nextInt(Math.max(1, songs));
            case 'l': return random.nextInt(random.nextBoolean() ? 3 : 8);
            case 'A': return random.nextInt(12);
            case '2': return random.nextInt(2);
            case '3': return random.nextInt(3);
            case '5': return random.nextInt(5);
            case '7': return random.nextInt(7);
            case 'd': return random.nextInt(random.nextInt(5) == 0 ? 102 : 12);
            case 'D': return random.nextInt(random.nextInt(9) == 0 ? 22 : 4);
            case 'm': return random.nextInt(random.nextInt(3) == 0 ? 22 : 4);
            case 'n': return random.nextInt(12) - 1;
            case 'k': return random.nextInt(7);
            case 't': return random.nextInt(12);
            default: return random.nextInt();
        }
    }

    private String askBoth(String name, int... arguments) {
        String got = ask(real, name, arguments);
        String due = ask(model, name, arguments);
        told.add(name + Arrays.toString(arguments) + " = " + got);
        if (!got.equals(due)) {
            throw new IllegalStateException("answered " + got + ", due is " + due);
        }
        return got;
    }

    private void tellText(String text) {
        told.add("text: " + text);
        for (int[] five : feeds(text)) {
            askBoth("feed", five);
        }
        askBoth("marsh", random.nextInt(20) == 0 ? random.nextInt(800) - 20 : text.length());
        askBoth("fault");
        songs = Integer.parseInt(askBoth("count", 0));
        people = Integer.parseInt(askBoth("count", 1));
        askBoth("count", 8);
    }

    /** What is so then, so that what is HEARD isn't always refuted at once. */
    private void hearTruth() {
        if (people == 0 || songs == 0) {
            return;
        }
        int p = random.nextInt(people);
        int s = random.nextInt(songs);
        int d = random.nextInt(15);
        int l = random.nextInt(Integer.parseInt(askBoth("song", s, 0)));
        askBoth("hear", p, s, l, d, Integer.parseInt(askBoth("note", p, s, l, d)));
    }

    /** One LEARNS what one can, and gaps are hummed, so that no two have it alike. */
    private void singOn() {
        for (int s = 0; s < songs; s++) {
            for (int p = 0; p < people; p++) {
                int gaps = Integer.parseInt(askBoth("has", p, s, 1));
                if (gaps != 0 && random.nextBoolean()) {
                    askBoth("hum", p, s, Integer.numberOfTrailingZeros(gaps), random.nextInt(10));
                }
                int other = Integer.parseInt(askBoth("toLearn", p, s, 0));
                if (other != -1) {
                    askBoth("learn", p, s, other);
                }
            }
        }
    }

    /** What is only of worth where many HAVE a SONG and there are TEACHERS. */
    private void lookAtSongs() {
        for (int s = 0; s < songs; s++) {
            askBoth("song", s, 3);
            askBoth("song", s, 4);
            askBoth("agreed", s, 0);
            askBoth("lessons", s, 1);
            for (int p = 0; p < people; p++) {
                askBoth("has", p, s, 3 + random.nextInt(4));
                askBoth("of", p, s, random.nextInt(3));
                askBoth("both", p, random.nextInt(people), s, random.nextInt(2));
                askBoth("game", p, random.nextInt(people), s, random.nextInt(2));
                askBoth("lesson", p, s);
            }
        }
    }

    private void anyCall() {
        String[] call = CALLS[random.nextInt(CALLS.length)].split(" ");
        String kinds = call.length > 1 ? call[1] : "";
        int[] arguments = new int[kinds.length()];
        for (int i = 0; i < arguments.length; i++) {
            arguments[i] = argument(kinds.charAt(i));
        }
        boolean spoils = call[0].equals("restore") || call[0].equals("giveUp") || call[0].equals("forget");
        if (!spoils || random.nextInt(3) == 0) {
            askBoth(call[0], arguments);
        }
    }

    private void lookAtAll() {
        for (int what = 2; what < 12; what++) {
            askBoth("count", what);
        }
        for (int p = 0; p < people; p++) {
            askBoth("person", p, 2 + random.nextInt(3));
            for (int s = 0; s < songs; s++) {
                askBoth("has", p, s, 1 + random.nextInt(6));
            }
        }
    }

    private void run() {
        real = new GapSongs();
        model = new Model();
        Texts texts = new Texts(random);
        tellText(texts.any());
        while (told.size() < 400) {
            int kind = random.nextInt(80);
            if (kind == 0) {
                String text = texts.any();
                tellText(random.nextInt(6) == 0 ? texts.changed(text) : text);
            } else if (kind == 1) {
                tellText(random.nextBoolean() ? texts.wild() : texts.changed(texts.any()));
            } else if (kind == 2) {
                lookAtAll();
            } else if (kind < 5) {
                singOn();
            } else if (kind == 5) {
                lookAtSongs();
            } else if (kind < 9) {
                hearTruth();
            } else {
                anyCall();
            }
        }
    }

    /** More ACTS than are kept, with an image in between, and all undone. */
    private void runActs() {
        real = new GapSongs();
        model = new Model();
        String[] names = {"days", "seek", "giveUp", "hum", "learn", "undo", "image", "restore", "hear"};
        int[] weights = {3, 16, 2, 4, 3, 2, 1, 1, 1};
        tellText(new Texts(random).any());
        while (told.size() < 330) {
            int pick = random.nextInt(33);
            int which = 0;
            while (pick >= weights[which]) {
                pick -= weights[which];
                which++;
            }
            for (String call : CALLS) {
                if (call.split(" ")[0].equals(names[which])) {
                    String kinds = call.contains(" ") ? call.split(" ")[1] : "";
                    int[] arguments = new int[kinds.length()];
                    Arrays.setAll(arguments, i -> argument(kinds.charAt(i)));
                    askBoth(names[which], arguments);
                }
            }
            if (random.nextInt(12) == 0) {
                singOn();
            }
        }
        while (!askBoth("undo").equals("-1")) {
            askBoth("count", 2 + random.nextInt(4));
        }
        lookAtAll();
    }

    /** Many texts on one object, for their FAULTS alone. */
    private void runTexts() {
        real = new GapSongs();
        model = new Model();
        Texts texts = new Texts(random);
        while (told.size() < 440) {
            int kind = random.nextInt(4);
            String text = kind == 0 ? texts.wild() : kind == 1 ? texts.any() : texts.changed(texts.any());
            tellText(text);
        }
    }

    public static void main(String[] args) {
        int runs = args.length > 0 ? Integer.parseInt(args[0]) : 400;
        long from = args.length > 1 ? Long.parseLong(args[1]) : 1;
        for (long seed = from; seed < from + runs; seed++) {
            ModelTest test = new ModelTest(seed);
            try {
                if (seed % 5 == 0) {
                    test.runTexts();
                } else if (seed % 5 == 1) {
                    test.runActs();
                } else {
                    test.run();
                }
            } catch (IllegalStateException e) {
                System.out.println("seed " + seed + ": " + e.getMessage());
                for (String line : test.told) {
                    System.out.println("  " + line);
                }
                System.exit(1);
            }
        }
        System.out.println(runs + " runs answer as the model does");
    }
}
