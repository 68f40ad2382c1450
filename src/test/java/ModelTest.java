import java.lang.reflect.InvocationTargetException;
import java.lang.reflect.Method;
import java.util.ArrayList;
import java.util.Arrays;
import java.util.List;
import java.util.Random;

/** Asks GapSongs and the Model the same by chance (always the same chance), and tells where they differ. */
public final class ModelTest {
    /**
     * A call and what its arguments are: p person, s song, l place, w what, d days up to 100, D days up to 20,
     * n note, k days of winters, t tenths, o a person or nobody, i any int, m days of an act.
     */
    private static final String[] CALLS = {
        "fault", "count w", "song sw", "person pw", "first sl", "has psw", "days m", "learn pso", "seek pso",
        "giveUp ps", "hum psln", "undo", "then psdw", "note psld", "sung sdw", "lost s", "learnt ps", "most d",
        "both ppsw", "toLearn psw", "lessons sw", "lesson ps", "hear pslDn", "forget", "otherwise w", "ask w",
        "winters pskt", "game ppsw", "years idw", "of psw", "kept sdw", "later dw", "agreed sl", "image", "restore"};
    private static final int[] ODD = {-1, -2, 7, 8, 12, 101, 1000, Integer.MAX_VALUE, Integer.MIN_VALUE};

    private final Random random;
    private final List<String> told = new ArrayList<>();
    private GapSongs real;
    private Model model;
    private int people;
    private int songs;

    private ModelTest(long seed) {
        random = new Random(seed);
    }

    private int argument(char kind, int song) {
        if (random.nextInt(40) == 0) {
            return ODD[random.nextInt(ODD.length)];
        }
        switch (kind) {
            case 'p': return random.nextInt(Math.max(1, people));
            case 'o': return random.nextInt(6) == 0 ? -1 : random.nextInt(Math.max(1, people));
            case 's': return random.nextInt(Math.max(1, songs));
            case 'l': return random.nextInt(random.nextBoolean() ? 3 : 8);
            case 'w': return random.nextInt(random.nextInt(5) == 0 ? 13 : 3);
            case 'd': return random.nextInt(random.nextInt(5) == 0 ? 102 : 12);
            case 'D': return random.nextInt(random.nextInt(9) == 0 ? 22 : 4);
            case 'm': return random.nextInt(random.nextInt(3) == 0 ? 22 : 4);
            case 'n': return random.nextInt(12) - 1;
            case 'k': return random.nextInt(7);
            case 't': return random.nextInt(12);
            default: return random.nextInt();
        }
    }

    private static String ask(Object object, String name, int[] arguments) throws ReflectiveOperationException {
        Class<?>[] types = new Class<?>[arguments.length];
        Object[] boxed = new Object[arguments.length];
        for (int i = 0; i < types.length; i++) {
            types[i] = int.class;
            boxed[i] = arguments[i];
        }
        Method method = object.getClass().getDeclaredMethod(name, types);
        try {
            return String.valueOf(method.invoke(object, boxed));
        } catch (InvocationTargetException e) {
            return "throws." + e.getCause().getClass().getSimpleName();
        }
    }

    private String askBoth(String name, int... arguments) throws ReflectiveOperationException {
        String got = ask(real, name, arguments);
        String due = ask(model, name, arguments);
        told.add(name + Arrays.toString(arguments) + " = " + got);
        if (!got.equals(due)) {
            throw new IllegalStateException("answered " + got + ", due is " + due);
        }
        return got;
    }

    private int tellText(String text) throws ReflectiveOperationException {
        told.add("text: " + text);
        byte[] bytes = Arrays.copyOf(text.getBytes(java.nio.charset.StandardCharsets.ISO_8859_1), 720);
        int calls = 1;
        for (int at = 0; at < text.length(); at += 20, calls++) {
            java.nio.ByteBuffer b = java.nio.ByteBuffer.wrap(bytes, at, 20);
            askBoth("feed", b.getInt(), b.getInt(), b.getInt(), b.getInt(), b.getInt());
        }
        askBoth("marsh", random.nextInt(20) == 0 ? random.nextInt(800) - 20 : text.length());
        askBoth("fault");
        songs = Integer.parseInt(askBoth("count", 0));
        people = Integer.parseInt(askBoth("count", 1));
        askBoth("count", 8);
        return calls + 4;
    }

    /** What is so then, so that what is HEARD isn't always refuted at once. */
    private void hearTruth() throws ReflectiveOperationException {
        if (people == 0 || songs == 0) {
            return;
        }
        int p = random.nextInt(people);
        int s = random.nextInt(songs);
        int d = random.nextInt(15);
        int l = random.nextInt(Integer.parseInt(askBoth("song", s, 0)));
        askBoth("hear", p, s, l, d, Integer.parseInt(askBoth("note", p, s, l, d)));
    }

    private void anyCall() throws ReflectiveOperationException {
        String[] call = CALLS[random.nextInt(CALLS.length)].split(" ");
        String kinds = call.length > 1 ? call[1] : "";
        int[] arguments = new int[kinds.length()];
        for (int i = 0; i < arguments.length; i++) {
            arguments[i] = argument(kinds.charAt(i), 0);
        }
        askBoth(call[0], arguments);
    }

    private void lookAtAll() throws ReflectiveOperationException {
        for (int what = 2; what < 12; what++) {
            askBoth("count", what);
        }
        for (int p = 0; p < people; p++) {
            askBoth("person", p, 2 + random.nextInt(3));
            for (int s = 0; s < songs; s++) {
                askBoth("has", p, s, 1 + random.nextInt(6));
            }
        }
    }

    private void run() throws ReflectiveOperationException {
        real = new GapSongs();
        model = new Model();
        Texts texts = new Texts(random);
        int calls = 0;
        while (calls < 400) {
            int kind = random.nextInt(60);
            if (calls == 0 || kind == 0) {
                String text = texts.any();
                calls += tellText(random.nextInt(6) == 0 ? texts.changed(text) : text);
            } else if (kind == 1) {
                calls += tellText(random.nextBoolean() ? texts.wild() : texts.changed(texts.any()));
            } else if (kind == 2) {
                lookAtAll();
                calls += 60;
            } else if (kind < 6) {
                hearTruth();
                calls += 3;
            } else {
                anyCall();
                calls++;
            }
        }
    }

    /** Many texts on one object each, for their FAULTS alone. */
    private void runTexts() throws ReflectiveOperationException {
        real = new GapSongs();
        model = new Model();
        Texts texts = new Texts(random);
        for (int calls = 0; calls < 440;) {
            int kind = random.nextInt(4);
            String text = kind == 0 ? texts.wild() : kind == 1 ? texts.any() : texts.changed(texts.any());
            calls += tellText(text);
        }
    }

    public static void main(String[] args) throws ReflectiveOperationException {
        int runs = args.length > 0 ? Integer.parseInt(args[0]) : 400;
        long from = args.length > 1 ? Long.parseLong(args[1]) : 1;
        for (long seed = from; seed < from + runs; seed++) {
            ModelTest test = new ModelTest(seed);
            try {
                if (seed % 3 == 0) {
                    test.runTexts();
                } else {
                    test.run();
                }
            } catch (IllegalStateException e) {
                System.out.println("seed " + seed + ": " + e.getMessage());
                for (String line : test.told) {
                    System.out.println("  " + line);
                }
                System.exit(1);
            }
        }
        System.out.println(runs + " runs answer as the model does");
    }
}
