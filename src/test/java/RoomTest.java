import java.lang.reflect.Array;
import java.lang.reflect.Field;
import java.lang.reflect.Modifier;
import java.util.ArrayDeque;
import java.util.Deque;
import java.util.IdentityHashMap;
import java.util.Map;

/**
 * All calls of one run live in one room: what an object holds is counted when it is new and behind the
 * dearest 512 calls. It must be small, and must not grow. (That no method makes an object that is dropped
 * again is what LanguageTest looks up.)
 */
public final class RoomTest {
    // So that a room of 7.3 million would hold an object for each of 512 runs.
    private static final int MOST_ELEMENTS = 14_000;
    private static final int MOST_OBJECTS = 100;

    private static int wrong = 0;

    private static void check(boolean holds, String what) {
        if (!holds) {
            wrong++;
            System.out.println(what);
        }
    }

    /** How many objects and arrays one holds, itself counted, and how many fields and elements. */
    private static int[] held(Object first) throws IllegalAccessException {
        Map<Object, Boolean> known = new IdentityHashMap<>();
        Deque<Object> open = new ArrayDeque<>();
        open.add(first);
        known.put(first, true);
        int elements = 0;
        while (!open.isEmpty()) {
            Object some = open.remove();
            if (some.getClass().isArray()) {
                elements += Array.getLength(some);
                continue;
            }
            for (Field f : some.getClass().getDeclaredFields()) {
                if (Modifier.isStatic(f.getModifiers())) {
                    continue;
                }
                elements++;
                f.setAccessible(true);
                Object next = f.getType().isPrimitive() ? null : f.get(some);
                if (next != null && known.put(next, true) == null) {
                    open.add(next);
                }
            }
        }
        return new int[] {known.size(), elements};
    }

    private static void write(BlobCorners x, String text) {
        for (char c : text.toCharArray()) {
            x.letter(c);
        }
        check(x.blob() > 0, "no BLOB: " + text);
    }

    /** 512 calls: a long way round, all told of it, and as many changes as there can be. */
    private static BlobCorners used() {
        BlobCorners x = new BlobCorners();
        write(x, "l.l.l/l.l.l/l.l.l/l.l.l/lllll");
        for (int i = 0; i < 5; i++) {
            x.weight();
        }
        x.image();
        for (int i = 0; i < 68; i++) {
            x.put(i % 25, i % 5);
            x.digest();
            x.drawn(3, i, 0);
            x.rack(i % 25, 0);
            x.see(i % 25, i % 4, true);
            x.turn();
            x.letter('d');
        }
        return x;
    }

    public static void main(String[] args) throws IllegalAccessException {
        int[] fresh = held(new BlobCorners());
        int[] then = held(used());
        check(fresh[0] <= MOST_OBJECTS, "objects: " + fresh[0]);
        check(fresh[1] <= MOST_ELEMENTS, "fields and elements: " + fresh[1]);
        check(then[0] == fresh[0], "objects behind 512 calls: " + then[0] + ", were " + fresh[0]);
        check(then[1] == fresh[1], "fields and elements behind 512 calls: " + then[1] + ", were " + fresh[1]);
        System.out.println(wrong == 0 ? fresh[0] + " objects, " + fresh[1] + " fields and elements"
            : wrong + " things are too many");
        if (wrong != 0) {
            System.exit(1);
        }
    }
}
