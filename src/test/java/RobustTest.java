import java.lang.management.ManagementFactory;
import java.lang.reflect.InvocationTargetException;
import java.lang.reflect.Method;
import java.lang.reflect.Modifier;
import java.util.ArrayList;
import java.util.Comparator;
import java.util.List;
import java.util.Random;

/**
 * No call throws, whatever its arguments; refused calls and questions change nothing; and calls
 * make no objects, since all of them share one room.
 */
public final class RobustTest {
    static final int[] EDGES = {Integer.MIN_VALUE, Integer.MIN_VALUE + 1, -1000000, -11, -7, -6, -2, -1, 0, 1, 2, 3, 4, 5, 6, 8,
        9, 10, 11, 20, 21, 33, 45, 48, 65, 74, 99, 100, 126, 127, 200, 201, 1023, 1024, 9999, 10000, 65537, Integer.MAX_VALUE - 1, Integer.MAX_VALUE};
    static final List<String> CHANGES = List.of("wall", "guest", "say", "wipe", "done", "seen", "forget", "image", "restore");
    static int wrong = 0;

    public static void main(String[] args) throws Exception {
        List<Method> face = new ArrayList<>();
        for (Method m : GuestStones.class.getDeclaredMethods()) {
            if (Modifier.isPublic(m.getModifiers())) {
                face.add(m);
            }
        }
        face.sort(Comparator.comparing(Method::getName));
        for (int seed = 0; seed < 300 && wrong < 20; seed++) {
            anyCalls(face, seed);
        }
        everyEdge(face);
        room();
        System.out.println("RobustTest: " + wrong + " wrong");
        if (wrong != 0) {
            System.exit(1);
        }
    }

    static long call(GuestStones x, Method m, Object[] values) throws IllegalAccessException {
        try {
            return ((Number) m.invoke(x, values)).longValue();
        } catch (InvocationTargetException e) {
            wrong++;
            System.out.println(m.getName() + java.util.Arrays.toString(values) + " threw " + e.getCause());
            return 0;
        }
    }

    static GuestStones full(Random r) {
        GuestStones x = new GuestStones();
        if (r.nextBoolean()) {
            x.wall(2 + r.nextInt(8));
        }
        for (int g = 0; g < 10; g++) {
            if (r.nextInt(8) > 0) {
                x.guest(g, 1 + r.nextInt(3), 1 + r.nextInt(20), r.nextInt(201));
            }
        }
        for (int i = 0; i < 30; i++) {
            x.wipe();
            x.say('A' + r.nextInt(10));
            x.say('0' + r.nextInt(9));
            x.done();
        }
        x.wipe();
        return x;
    }

    /** What a new look at all of it tells. */
    static String all(GuestStones x) {
        StringBuilder b = new StringBuilder();
        for (int i = 0; i < 112; i++) {
            b.append(x.told(i)).append(' ');
        }
        for (int g = 0; g < 10; g++) {
            b.append(x.state(g, 0)).append(' ').append(x.state(g, 1)).append(' ').append(x.load(g, 0)).append(' ');
        }
        for (int c = 0; c < 9; c++) {
            b.append(x.height(c)).append(' ').append(x.gaps(c)).append(' ').append(x.who(0, 0));
        }
        return b.append(x.fault()).append(' ').append(x.judge(0)).append(' ').append(x.strain(0)).toString();
    }

    static void anyCalls(List<Method> face, int seed) throws IllegalAccessException {
        Random r = new Random(seed);
        GuestStones x = full(r);
        for (int i = 0; i < 60; i++) {
            Method m = face.get(r.nextInt(face.size()));
            Object[] values = new Object[m.getParameterCount()];
            for (int k = 0; k < values.length; k++) {
                values[k] = r.nextInt(3) == 0 ? EDGES[r.nextInt(EDGES.length)] : r.nextInt(11) - 1;
            }
            String before = all(x);
            long answer = call(x, m, values);
            boolean isRefused = answer < 0 && answer != -6;
            if ((isRefused || !CHANGES.contains(m.getName())) && !all(x).equals(before)) {
                wrong++;
                System.out.println("seed " + seed + ": " + m.getName() + java.util.Arrays.toString(values) + " answered " + answer + " and changed it");
            }
        }
    }

    static void everyEdge(List<Method> face) throws IllegalAccessException {
        Random r = new Random(7);
        for (Method m : face) {
            int many = m.getParameterCount();
            int all = 1;
            for (int i = 0; i < many; i++) {
                all *= EDGES.length;
            }
            GuestStones x = full(r);
            for (int n = 0; n < Math.min(all, 60000); n++) {
                Object[] values = new Object[many];
                int rest = n;
                for (int i = 0; i < many; i++) {
                    values[i] = EDGES[rest % EDGES.length];
                    rest /= EDGES.length;
                }
                call(x, m, values);
            }
        }
    }

    /** A few hundred of the dearest calls make less than a thousand objects would take. */
    static void room() {
        com.sun.management.ThreadMXBean bean = (com.sun.management.ThreadMXBean) ManagementFactory.getThreadMXBean();
        long id = Thread.currentThread().getId();
        GuestStones x = new GuestStones();
        for (int g = 0; g < 10; g++) {
            x.guest(g, 1, 1, 200);
        }
        long most = 0;
        for (int round = 0; round < 2; round++) {
            long before = bean.getThreadAllocatedBytes(id);
            for (int i = 0; i < 20; i++) {
                x.who(2, 0);
                x.look(2, 0);
                x.year(i, 99, 0);
                x.falls(1023);
                x.key(0);
                x.high(0);
                x.orders(-1);
                x.judge(0);
                x.weak(3, 0, 0);
                x.strain(0);
                x.image(0);
                x.restore(0);
            }
            most = bean.getThreadAllocatedBytes(id) - before;
        }
        System.out.println("RobustTest: the calls of a round made " + most + " bytes");
        if (most > 16000) {
            wrong++;
            System.out.println("calls made objects of " + most + " bytes");
        }
    }
}
