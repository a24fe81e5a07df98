import java.lang.management.ManagementFactory;
import java.lang.reflect.Method;
import java.lang.reflect.Modifier;
import java.util.ArrayList;
import java.util.Comparator;
import java.util.List;
import java.util.Random;

/** Any arguments in any state: nothing is thrown, ERRORS are counted, and calls make no objects. */
public final class AnyArguments {
    private static final int[] EDGES = {
        Integer.MIN_VALUE, Integer.MIN_VALUE + 1, -1000000001, -1, 0, 1, 2, 3, 4, 5, 6, 7, 8, 9, 10, 16, 23, 24, 25, 32, 59, 60,
        61, 65, 99, 100, 1000000000, Integer.MAX_VALUE - 1, Integer.MAX_VALUE,
    };
    private static int wrong;

    private static List<Method> acts() {
        List<Method> acts = new ArrayList<>();
        for (Method m : LastInBox.class.getDeclaredMethods()) {
            if (Modifier.isPublic(m.getModifiers())) {
                acts.add(m);
            }
        }
        acts.sort(Comparator.comparing(Method::getName));
        return acts;
    }

    private static Object[] drawn(Method act, Random random) {
        Object[] args = new Object[act.getParameterCount()];
        for (int i = 0; i < args.length; i++) {
            int small = random.nextInt(7);
            int edge = EDGES[random.nextInt(EDGES.length)];
            args[i] = act.getParameterTypes()[i] == long.class ? (Object) random.nextLong()
                : (Object) (random.nextInt(4) > 0 ? small : edge);
        }
        return args;
    }

    private static void runs(List<Method> acts, int seed) {
        Random random = new Random(seed);
        LastInBox box = new LastInBox();
        for (int i = random.nextInt(25); i > 0; i--) {
            box.lay(random.nextInt(6), random.nextInt(2));
            box.person();
            box.give(random.nextInt(6), random.nextInt(6), random.nextInt(100));
        }
        long told = told(box);
        for (int i = 0; i < 60; i++) {
            Method act = acts.get(random.nextInt(acts.size()));
            Object[] args = drawn(act, random);
            try {
                long answer = ((Number) act.invoke(box, args)).longValue();
                boolean any = act.getName().equals("seed") || act.getName().equals("voice")
                    || act.getName().equals("count") && (Integer) args[0] == 8;
                long now = told(box);
                if (!any && now - told != (answer < -1000000000L ? 1 : 0)) {
                    wrong++;
                    System.out.println("run " + seed + ": " + act.getName() + " answered " + answer + ", counted " + (now - told));
                }
                told = now;
            } catch (ReflectiveOperationException e) {
                wrong++;
                System.out.println(act.getName() + " threw " + e.getCause());
            }
        }
    }

    private static long told(LastInBox box) {
        long sum = 0;
        for (int k = 1; k <= 6; k++) {
            sum += box.told(k);
        }
        return sum;
    }

    /** The dearest calls, many times over: what they make has to stay near nothing. */
    private static void room() {
        com.sun.management.ThreadMXBean threads = (com.sun.management.ThreadMXBean) ManagementFactory.getThreadMXBean();
        long me = Thread.currentThread().getId();
        LastInBox box = new LastInBox();
        box.ticket(0);
        box.box(60);
        for (int i = 0; i < 24; i++) {
            box.lay(i % 6, 0);
        }
        for (int i = 0; i < 6; i++) {
            box.person();
            for (int sort = 0; sort < 6; sort++) {
                box.give(i, sort, 9);
            }
        }
        box.sheet(0, 8, 6);
        box.sheet(1, 8, 4);
        long sum = dearest(box);
        long from = threads.getThreadAllocatedBytes(me);
        for (int i = 0; i < 512; i++) {
            sum += dearest(box);
        }
        long made = threads.getThreadAllocatedBytes(me) - from;
        if (made > 100000 || sum == 1) {
            wrong++;
            System.out.println("512 times the dearest calls made " + made + " bytes");
        }
    }

    private static long dearest(LastInBox box) {
        box.feed('w', 1);
        return box.wrong(4, 0) + box.get(0, 0, 4) + box.order(0, 0) + box.dawn(0, 1) + box.tally(1, 0) + box.again(3) + box.must(0, 3)
            + box.text(1) + box.image() + box.restore() + box.voice(3, 3) + box.dear(0) + box.stranger(3) + box.draws(60);
    }

    public static void main(String[] args) {
        List<Method> acts = acts();
        for (int seed = 0; seed < 3000; seed++) {
            runs(acts, seed);
        }
        room();
        System.out.println(wrong == 0 ? "AnyArguments: nothing thrown, nothing made" : wrong + " faults");
        if (wrong != 0) {
            System.exit(1);
        }
    }
}
