import java.lang.reflect.InvocationTargetException;
import java.lang.reflect.Method;
import java.nio.ByteBuffer;
import java.nio.charset.StandardCharsets;
import java.util.Arrays;
import java.util.NoSuchElementException;

/** What the tests of the promises check by: each answer that is not the one that is due is printed and counted. */
abstract class Checks {
    static final int NONE = -1;
    static final int MANY = Integer.MAX_VALUE;
    static final int FEW = Integer.MIN_VALUE;

    /** 0 has song 0 whole, 1 with a gap at place 1; 0 has song 1 with a gap at place 0; 2 seeks song 0 of 1. */
    static final String THREE = "song 1 2 3 4;song 5 5;person 1 3;person 0 2;person 2 9;"
        + "has 0 0 0;has 1 0 2;has 0 1 1;seeks 2 0 1;";

    private static int wrong = 0;
    private static String about = "";

    interface Call {
        int answer();
    }

    static void about(String what) {
        about = what;
    }

    static void report(String what) {
        wrong++;
        System.out.println(about + ": " + what);
    }

    static void due(String call, String got, String want) {
        if (!got.equals(want)) {
            report(call + " answered " + got + ", due is " + want);
        }
    }

    static void due(String call, int got, int want) {
        due(call, String.valueOf(got), String.valueOf(want));
    }

    static void due(String call, boolean got, boolean want) {
        due(call, String.valueOf(got), String.valueOf(want));
    }

    static void missing(String call, Call made) {
        due(call, answerOf(made), "throws." + NoSuchElementException.class.getSimpleName());
    }

    static void illegal(String call, Call made) {
        due(call, answerOf(made), "throws." + IllegalArgumentException.class.getSimpleName());
    }

    private static String answerOf(Call made) {
        try {
            return String.valueOf(made.answer());
        } catch (RuntimeException e) {
            return "throws." + e.getClass().getSimpleName();
        }
    }

    /** What a call by its name answers, or throws. */
    static String ask(Object object, String name, int... arguments) {
        Class<?>[] types = new Class<?>[arguments.length];
        Object[] boxed = new Object[arguments.length];
        for (int i = 0; i < types.length; i++) {
            types[i] = int.class;
            boxed[i] = arguments[i];
        }
        try {
            Method method = object.getClass().getDeclaredMethod(name, types);
            return String.valueOf(method.invoke(object, boxed));
        } catch (InvocationTargetException e) {
            return "throws." + e.getCause().getClass().getSimpleName();
        } catch (ReflectiveOperationException e) {
            throw new IllegalStateException(name, e);
        }
    }

    /** The tape's numbers for a text, five a call of feed, the last ones with bytes of 0 behind the text. */
    static int[][] feeds(String text) {
        int calls = (text.length() + 19) / 20;
        ByteBuffer bytes = ByteBuffer.wrap(Arrays.copyOf(text.getBytes(StandardCharsets.ISO_8859_1), calls * 20));
        int[][] numbers = new int[calls][5];
        for (int[] five : numbers) {
            Arrays.setAll(five, i -> bytes.getInt());
        }
        return numbers;
    }

    static void feedText(GapSongs x, String text) {
        for (int[] five : feeds(text)) {
            x.feed(five[0], five[1], five[2], five[3], five[4]);
        }
    }

    static int tell(GapSongs x, String text) {
        feedText(x, text);
        return x.marsh(text.length());
    }

    static GapSongs of(String text) {
        GapSongs x = new GapSongs();
        due("marsh of " + text, tell(x, text), 0);
        return x;
    }

    /** A text on a new object has this FAULT (0 for none) at this place, and tells nothing then. */
    static void faulty(String text, int kind, int place) {
        GapSongs x = new GapSongs();
        due("marsh of " + text, tell(x, text), kind);
        due("fault() of " + text, x.fault(), place);
        due("STATUS 0 of " + text, x.count(9), kind == 0 ? 0 : 1);
        due("something is told by " + text, kind != 0 && x.count(0) + x.count(1) > 0, false);
    }

    static void right(String text) {
        faulty(text, 0, NONE);
    }

    /** Whether a rule forgets the first NOTE of a SONG (8 8) of who has memory 4 and wit 6; -1 for a FAULT. */
    static void expr(String rule, int want) {
        GapSongs x = new GapSongs();
        int got = tell(x, "song 8 8;person 4 6;has 0 0 0;forgets " + rule + ";");
        due(rule, got != 0 ? -1 : x.then(0, 0, 1, 1), want);
    }

    /** Tells how it came out, and ends the test. */
    static void end(String good) {
        System.out.println(wrong == 0 ? good : wrong + " answers are not as due");
        if (wrong != 0) {
            System.exit(1);
        }
    }
}
