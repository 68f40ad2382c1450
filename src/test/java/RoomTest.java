import java.lang.reflect.Array;
import java.lang.reflect.Field;
import java.lang.reflect.Modifier;
import java.util.IdentityHashMap;
import java.util.Map;

/** How much room an object takes: little when it is new, and no more behind all its calls. */
public final class RoomTest extends Checks {
    private static final int MOST_OBJECTS = 60;
    private static final int MOST_ELEMENTS = 10_000;

    private static int objects = 0;
    private static int elements = 0;

    public static void main(String[] args) throws IllegalAccessException {
        about("room");
        GapSongs x = new GapSongs();
        measure(x);
        int objectsNew = objects;
        int elementsNew = elements;
        due("a new object has more than " + MOST_OBJECTS + " objects", objectsNew > MOST_OBJECTS, false);
        due("a new object has more than " + MOST_ELEMENTS + " elements", elementsNew > MOST_ELEMENTS, false);
        use(x);
        measure(x);
        due("objects behind its calls", objects, objectsNew);
        due("elements behind its calls", elements, elementsNew);
        end("an object has " + objectsNew + " objects and " + elementsNew + " fields and elements, new or old");
    }

    /** Some 500 calls of every kind, many of them refused. */
    private static void use(GapSongs x) {
        tell(x, THREE + "forgets day=memory;fills wit+after-before;");
        for (int i = 0; i < 22; i++) {
            x.hear(i % 3, i % 2, 0, i % 21, i % 10);
            x.seek(i % 3, i % 2, (i + 1) % 3);
            x.learn(2, 0, 1);
            x.hum(1, 0, 1, i % 10);
            x.days(1 + i % 3);
            x.giveUp(i % 3, 0);
            x.image();
            x.restore();
            x.lessons(0, 0);
            x.toLearn(2, 0, 0);
            x.otherwise(i % 3);
            x.ask(i % 2);
            x.winters(0, 0, 3, 5);
            x.game(0, 1, 0, 0);
            x.years(i, 50, 0);
            x.kept(0, 50, 0);
            x.both(0, 1, 0, 1);
            x.lost(0);
            x.feed(i, i, i, i, i);
            missing("first(9, 9)", () -> x.first(9, 9));
        }
        due("marsh of what is no text", x.marsh(400), 1);
    }

    private static void measure(Object root) throws IllegalAccessException {
        objects = 0;
        elements = 0;
        walk(root, new IdentityHashMap<>());
    }

    /** Counts an own object or an array, and all that it leads to. */
    private static void walk(Object one, Map<Object, Boolean> met) throws IllegalAccessException {
        if (one == null || one instanceof String || met.put(one, true) != null) {
            return;
        }
        objects++;
        if (one.getClass().isArray()) {
            elements += Array.getLength(one);
            for (int i = 0; !one.getClass().getComponentType().isPrimitive() && i < Array.getLength(one); i++) {
                walk(Array.get(one, i), met);
            }
            return;
        }
        for (Field field : one.getClass().getDeclaredFields()) {
            if (!Modifier.isStatic(field.getModifiers())) {
                elements++;
                field.setAccessible(true);
                if (!field.getType().isPrimitive()) {
                    walk(field.get(one), met);
                }
            }
        }
    }
}
