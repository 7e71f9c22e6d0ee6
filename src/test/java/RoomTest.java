import java.lang.reflect.Array;
import java.lang.reflect.Field;
import java.lang.reflect.Modifier;
import java.util.ArrayDeque;
import java.util.Deque;
import java.util.IdentityHashMap;
import java.util.Map;

/**
 * What the dearest run keeps: all calls of a run live in one room. No call makes anything that it does not keep,
 * but for exceptions, so what is kept tells what is made.
 */
public final class RoomTest {
    private static final int MOST_OBJECTS = 600;
    private static final int MOST_ELEMENTS = 340_000;

    public static void main(String[] args) throws Exception {
        GridStore store = new GridStore();
        for (int grid = 0; grid < 8; grid++) {
            store.grid(48, 40);
        }
        for (int view = 0; view < 12; view++) {
            store.view(view == 0 ? 0 : 99 + view, 0, 0, 40, 40, 1, true);
        }
        for (int grid = 0; grid < 8; grid++) {
            for (int layer = 0; layer < 25; layer++) {
                store.keep(grid);
            }
        }
        long[] before = kept(store);
        for (int call = 0; call < 20; call++) {
            store.slide(call % 7, 4, 7);
            store.join(call % 7, 1, call % 4, 7);
            store.back(7, call);
            store.fill(111, 0, 0, 40, 40, call);
            store.lose(call % 5, call % 2 == 0);
            store.sum(111, 20, 20, 9);
            store.count(4);
            store.differ(7, -1, call);
        }
        long[] after = kept(store);
        System.out.println("RoomTest: " + after[0] + " objects and arrays, " + after[1] + " fields and elements");
        boolean well = after[0] <= MOST_OBJECTS && after[1] <= MOST_ELEMENTS
            && before[0] == after[0] && before[1] == after[1];
        if (!well) {
            System.out.println("too many, or acts made some: " + before[0] + ", " + before[1] + " before them");
            System.exit(1);
        }
    }

    private static long[] kept(Object first) throws Exception {
        Map<Object, Boolean> seen = new IdentityHashMap<>();
        Deque<Object> ahead = new ArrayDeque<>();
        ahead.add(first);
        long[] counts = new long[2];
        while (!ahead.isEmpty()) {
            Object one = ahead.remove();
            if (seen.put(one, true) != null) {
                continue;
            }
            counts[0]++;
            if (one.getClass().isArray()) {
                counts[1] += Array.getLength(one);
                for (int i = 0; one instanceof Object[] && i < Array.getLength(one); i++) {
                    add(ahead, Array.get(one, i));
                }
                continue;
            }
            for (Field field : one.getClass().getDeclaredFields()) {
                if (!Modifier.isStatic(field.getModifiers())) {
                    counts[1]++;
                    field.setAccessible(true);
                    if (!field.getType().isPrimitive()) {
                        add(ahead, field.get(one));
                    }
                }
            }
        }
        return counts;
    }

    private static void add(Deque<Object> ahead, Object one) {
        if (one != null) {
            ahead.add(one);
        }
    }
}
