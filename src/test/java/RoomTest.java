import java.lang.management.ManagementFactory;
import java.lang.reflect.Array;
import java.lang.reflect.Field;
import java.lang.reflect.InvocationTargetException;
import java.lang.reflect.Method;
import java.lang.reflect.Modifier;
import java.util.ArrayDeque;
import java.util.Collections;
import java.util.Deque;
import java.util.IdentityHashMap;
import java.util.Random;
import java.util.Set;

/** No call throws, whatever its arguments are; and an object and its calls keep to a small room. */
public final class RoomTest {
    private static final int[] ODD = {
        Due.MIN, Due.MIN + 1, -65536, -256, -33, -32, -2, -1, 0, 1, 2, 3, 4, 7, 8, 9, 10, 15, 16, 19, 20, 29, 30, 31, 32,
        33, 40, 99, 100, 255, 256, 999, 1000, 1023, 1024, 9999, 10000, 65536, Due.MAX - 1, Due.MAX,
    };

    private static int objects;
    private static int elements;

    public static void main(String[] args) throws IllegalAccessException {
        for (int state = 0; state < 3; state++) {
            neverThrows(state);
        }
        room();
        madeByCalls();
        Due.end();
    }

    private static CoastLights coast(int state) {
        CoastLights x = new CoastLights();
        if (state == 0) {
            return x;
        }
        int many = state == 1 ? 2 : 10;
        for (int i = 0; i < many; i++) {
            Due.light(x, "Q(14)W30s", state == 1 ? 2 * i : 1, 17 * i, 15);
            x.sector(i, i, 3 * i & 15, i & 3);
            Due.sheet(x, i & 3, 32, ODD);
        }
        for (int i = 0; i < 8 && state == 2; i++) {
            x.bearing(i, i, 15);
        }
        for (int i = 0; i < 12; i++) {
            x.fairway(i, true);
        }
        for (int i = 0; i < 20; i++) {
            x.word(i % many, i, i, true);
        }
        return x;
    }

    private static void neverThrows(int state) throws IllegalAccessException {
        Random random = new Random(state);
        for (Method method : CoastLights.class.getDeclaredMethods()) {
            if (!Modifier.isPublic(method.getModifiers())) {
                continue;
            }
            CoastLights x = coast(state);
            for (int time = 0; time < 2000; time++) {
                Object[] with = arguments(method, random);
                try {
                    method.invoke(x, with);
                } catch (InvocationTargetException thrown) {
                    Due.hold(method.getName() + java.util.Arrays.toString(with) + " threw " + thrown.getCause(), false);
                }
            }
            Due.hold(method.getName() + " came through", true);
        }
    }

    private static Object[] arguments(Method method, Random random) {
        Class<?>[] types = method.getParameterTypes();
        Object[] with = new Object[types.length];
        for (int i = 0; i < types.length; i++) {
            if (types[i] == boolean.class) {
                with[i] = random.nextBoolean();
            } else if (types[i] == long.class) {
                with[i] = random.nextLong();
            } else {
                with[i] = ODD[random.nextInt(ODD.length)];
            }
        }
        return with;
    }

    /** Counts what an object keeps: with no objects made beside it, that is what a run makes. */
    private static void count(Object root) throws IllegalAccessException {
        objects = 0;
        elements = 0;
        Set<Object> known = Collections.newSetFromMap(new IdentityHashMap<>());
        Deque<Object> open = new ArrayDeque<>();
        open.add(root);
        known.add(root);
        while (!open.isEmpty()) {
            Object at = open.remove();
            objects++;
            if (at.getClass().isArray()) {
                elements += Array.getLength(at);
                for (int i = 0; !at.getClass().getComponentType().isPrimitive() && i < Array.getLength(at); i++) {
                    take(Array.get(at, i), known, open);
                }
                continue;
            }
            for (Field field : at.getClass().getDeclaredFields()) {
                if (Modifier.isStatic(field.getModifiers())) {
                    continue;
                }
                elements++;
                field.setAccessible(true);
                if (!field.getType().isPrimitive()) {
                    take(field.get(at), known, open);
                }
            }
        }
    }

    private static void take(Object one, Set<Object> known, Deque<Object> open) {
        if (one != null && known.add(one)) {
            open.add(one);
        }
    }

    private static void room() throws IllegalAccessException {
        CoastLights x = new CoastLights();
        count(x);
        System.out.println("a new object: " + objects + " objects, " + elements + " elements");
        Due.hold("a new object is small", objects < 150 && elements < 3000);
        for (int i = 0; i < 10; i++) {
            Due.light(x, "FW", 1, i, 1);
            x.overdue();
            x.kept();
            x.fix(false);
        }
        count(x);
        System.out.println("with 10 ROCKS: " + objects + " objects, " + elements + " elements");
        Due.hold("THE LANDINGS keep to their room", objects < 150 && elements < 30000);
    }

    /** What 512 calls make, also of what is not kept: THE LANDINGS' rows as they grow, and nothing else. */
    private static void madeByCalls() {
        CoastLights x = new CoastLights();
        long before = made();
        int calls = 0;
        for (int i = 0; i < 10; i++) {
            x.feed(2, 22342);
            x.light(1 + 2 * (i % 2), 25 * i, 15);
            x.overdue();
            calls += 3;
        }
        x.sheet(0, 8, 20);
        calls++;
        long grown = made();
        while (calls + 10 <= 512) {
            x.haze(calls % 16);
            x.fix(false);
            x.kept();
            x.seas(0);
            x.overdue();
            x.bearing(calls % 10, 0, 15);
            x.clear();
            x.undo();
            x.proves(0);
            x.allApart(1023);
            calls += 10;
        }
        long rest = made() - grown;
        System.out.println("512 calls with 10 ROCKS make " + (grown - before) + " bytes, and then " + rest);
        // 2 + 4 + .. + 1024 sets times 21 numbers of 4 bytes, and what the measuring itself makes.
        Due.hold("THE LANDINGS grow within their room", grown - before < 250000);
        Due.hold("the other calls make nothing", rest < 10000);
    }

    private static long made() {
        return ((com.sun.management.ThreadMXBean) ManagementFactory.getThreadMXBean())
            .getThreadAllocatedBytes(Thread.currentThread().getId());
    }
}
