import java.lang.reflect.Method;
import java.util.HashMap;
import java.util.Map;
import java.util.Random;
import java.util.TreeMap;

/**
 * Runs of some 450 drawn calls, each answered by LastInBox as by PlainModel. The draws are the same every time.
 * With the argument "tell" it prints how often each call was answered, and with which ERRORS.
 */
public final class RandomRuns {
    private static final int RUNS = 900;
    private static final String OTHER_SIGNS = "wlkmst0123(!)<=>|&+-*/%x \u00e9";
    private static final String[] NAMES = {
        "worth", "ticket", "box", "as", "lay", "empty", "coin", "person", "personIs", "give", "feed", "text",
        "untell", "go", "stranger", "draws", "seed", "change", "dear", "get", "order", "dawn", "wrong", "again",
        "must", "tally", "voice", "body", "sheet", "put", "move", "lays", "image", "restore", "tell", "check",
        "count", "told", "TEXT", "MUST", "TALLY", "CHECK", "QUEUE",
    };
    private static final int[] WEIGHTS = {
        5, 5, 8, 3, 20, 1, 4, 5, 6, 12, 3, 2,
        1, 10, 8, 1, 1, 12, 8, 6, 5, 6, 4, 6,
        2, 4, 6, 4, 4, 14, 3, 3, 1, 1, 3, 2,
        6, 3, 4, 4, 4, 2, 4,
    };

    private final Random random;
    private final LastInBox box = new LastInBox();
    private final PlainModel model = new PlainModel();
    private final int run;
    private static final Map<String, Method> BOX = methods(LastInBox.class);
    private static final Map<String, Method> MODEL = methods(PlainModel.class);
    private static final Map<String, Integer> ANSWERED = new TreeMap<>();
    private static int wrong;
    private int calls;

    private RandomRuns(int run) {
        this.run = run;
        this.random = new Random(run);
    }

    private static Map<String, Method> methods(Class<?> of) {
        Map<String, Method> found = new HashMap<>();
        for (Method m : of.getDeclaredMethods()) {
            if (java.lang.reflect.Modifier.isPublic(m.getModifiers()) && !java.lang.reflect.Modifier.isStatic(m.getModifiers())) {
                found.put(m.getName(), m);
            }
        }
        return found;
    }

    private long call(String name, long... args) {
        Method m = BOX.get(name);
        Object[] given = new Object[args.length];
        StringBuilder told = new StringBuilder(name).append('(');
        for (int i = 0; i < args.length; i++) {
            boolean isLong = m.getParameterTypes()[i] == long.class;
            given[i] = isLong ? (Object) args[i] : (Object) (int) args[i];
            told.append(i == 0 ? "" : ", ").append(given[i]);
        }
        calls++;
        long got;
        long want;
        try {
            got = ((Number) m.invoke(box, given)).longValue();
            want = ((Number) MODEL.get(name).invoke(model, given)).longValue();
        } catch (ReflectiveOperationException e) {
            wrong++;
            System.out.println("run " + run + ": " + told + ") threw " + e.getCause());
            return 0;
        }
        ANSWERED.merge(name + (want <= -1000000001L && want >= -1000000006L ? " " + (want + 1000000000L) : ""), 1, Integer::sum);
        if (got != want) {
            wrong++;
            System.out.println("run " + run + ", call " + calls + ": " + told + ") answered " + got + ", the model " + want);
        }
        return want;
    }

    private int near(int from, int to) {
        return random.nextInt(12) == 0 ? from - 1 + random.nextInt(to - from + 3) : from + random.nextInt(to - from + 1);
    }

    private int person() {
        return random.nextInt(40) == 0 ? 6 : random.nextInt(4);
    }

    private int bits() {
        return new int[] {8, 16, 32, 8, 16, 32, 0, 9}[random.nextInt(8)];
    }

    private String text(String names, int deep) {
        StringBuilder t = new StringBuilder();
        int parts = 1 + random.nextInt(deep > 2 ? 1 : 3);
        for (int i = 0; i < parts; i++) {
            if (i > 0) {
                t.append("|&<=>+-*/%+-*/".charAt(random.nextInt(14)));
            }
            int what = random.nextInt(10);
            if (what < 5) {
                t.append(names.charAt(random.nextInt(names.length())));
            } else if (what < 7) {
                t.append(random.nextInt(random.nextInt(6) == 0 ? 20000 : 12));
            } else if (what == 7) {
                t.append('!').append(names.charAt(0));
            } else {
                t.append(what == 8 ? "(" : "!(").append(text(names, deep + 1)).append(')');
            }
        }
        return t.toString();
    }

    private void feedText() {
        int use = random.nextInt(2);
        if (random.nextInt(4) > 0) {
            call("text", use);
        }
        StringBuilder t = new StringBuilder(text(use == 0 ? "wlkm" : "swt", 0));
        while (random.nextInt(4) == 0) {
            t.setCharAt(random.nextInt(t.length()), OTHER_SIGNS.charAt(random.nextInt(OTHER_SIGNS.length())));
        }
        for (int at = 0; at < t.length(); at += 8) {
            int n = Math.min(8, t.length() - at);
            long word = n < 8 ? random.nextLong() << (8 * n) : 0;
            for (int i = 0; i < n; i++) {
                word |= (long) (t.charAt(at + i) & 255) << (8 * i);
            }
            call("feed", word, n);
        }
        call("text", use);
        call(use == 0 ? "change" : "dear", use == 0 ? new long[] {3 + random.nextInt(3), 0} : new long[] {0});
    }

    /** A row that some KIND would give. */
    private void aimedMust() {
        int sort = random.nextInt(6);
        int was = (int) call("count", 15) * 10 + (int) call("count", 16);
        call("box", random.nextInt(6) * 10 + was % 10);
        long n = call("change", sort, 1);
        call("sheet", 3, 16, n);
        for (int i = 0; i < n; i++) {
            call("put", 3, i, call("change", sort, 4 + i));
        }
        call("box", was);
        call("must", 3, sort);
    }

    private void aimedTally() {
        int n = random.nextInt(5);
        call("sheet", 2, 8, n);
        for (int i = 0; i < n; i++) {
            call("put", 2, i, random.nextInt(random.nextInt(5) + 1));
        }
        call("tally", 2, 0);
        call("tally", 2, 1);
    }

    private void aimedCheck() {
        call("check");
        long n = Math.min(24, call("count", 0) + random.nextInt(3) - 1);
        for (int i = 0; i < n; i++) {
            long coin = call("coin", i) / 10;
            call("tell", random.nextInt(20) == 0 ? 7 : coin);
        }
        call("check");
    }

    private void drawn(String name) {
        switch (name) {
            case "worth" -> call(name, near(0, 5), random.nextInt(3) == 0 ? near(1, 99) : 1 + random.nextInt(12));
            case "ticket" -> call(name, random.nextInt(5) == 0 ? near(0, 99) : random.nextInt(5));
            case "box" -> call(name, near(0, 69));
            case "as" -> call(name, near(0, 6));
            case "lay" -> call(name, near(0, 5), near(0, 1));
            case "coin" -> call(name, near(0, 23));
            case "personIs" -> call(name, person(), near(0, 7));
            case "give" -> call(name, person(), near(0, 5), random.nextInt(4) == 0 ? near(0, 99) : random.nextInt(4));
            case "feed" -> call(name, random.nextLong(), near(1, 8));
            case "text", "untell" -> call(name, near(0, 1));
            case "go" -> call(name, person(), near(0, 5));
            case "stranger", "again" -> call(name, near(0, 5));
            case "draws" -> call(name, random.nextInt(3) == 0 ? near(1, 60) : 1 + random.nextInt(4));
            case "seed" -> call(name, random.nextInt());
            case "change" -> call(name, near(0, 5), near(0, random.nextInt(4) == 0 ? 28 : 6));
            case "dear" -> call(name, person());
            case "get" -> call(name, person(), near(0, 5), near(0, 4));
            case "order" -> call(name, random.nextInt(20) == 0 ? 4 : random.nextInt(2), near(-1, 5));
            case "dawn", "must" -> call(name, random.nextInt(20) == 0 ? -1 : random.nextInt(2), near(0, 5));
            case "wrong" -> call(name, near(1, 4), near(0, 1));
            case "tally" -> call(name, near(0, 3), near(0, 1));
            case "voice" -> call(name, near(0, 3), random.nextInt(3) == 0 ? random.nextInt() : near(-9, 9));
            case "body" -> call(name, near(0, 6));
            case "sheet" -> call(name, near(0, 3), bits(), random.nextInt(3) == 0 ? near(0, 24) : random.nextInt(7));
            case "put" -> call(name, near(0, 3), near(0, 5), random.nextInt(4) == 0 ? 256 * near(0, 300) + near(0, 5) : near(0, 5));
            case "move" -> call(name, near(0, 3), near(0, 3), near(0, 3), near(0, 3), near(0, 5));
            case "lays" -> call(name, near(0, 3));
            case "tell" -> call(name, near(0, 5));
            case "count" -> call(name, near(0, 16));
            case "told" -> call(name, near(1, 6));
            case "TEXT" -> feedText();
            case "MUST" -> aimedMust();
            case "TALLY" -> aimedTally();
            case "CHECK" -> aimedCheck();
            case "QUEUE" -> aimedQueue();
            default -> call(name);
        }
    }

    /** Some people with coins, a heap and a queue, so that the calls find something to do. */
    private void start() {
        int people = random.nextInt(7);
        for (int i = 0; i < people; i++) {
            call("person");
            call("give", i, random.nextInt(6), 1 + random.nextInt(3));
            call("give", i, random.nextInt(6), random.nextInt(3));
        }
        for (int i = random.nextInt(25); i > 0; i--) {
            call("lay", random.nextInt(1 + random.nextInt(6)), random.nextInt(5) == 0 ? 1 : 0);
        }
        if (random.nextBoolean()) {
            for (int i = 0; i < 6; i++) {
                call("worth", i, 1 + random.nextInt(1 + random.nextInt(9)));
            }
            call("ticket", random.nextInt(4));
        }
        call("sheet", 0, 8, people);
        aimedQueue();
    }

    private void aimedQueue() {
        for (int i = 0; i < call("count", 2); i++) {
            int sort = random.nextInt(6);
            for (int more = 0; more < 6 && call("personIs", i, sort) == 0; more++) {
                sort = random.nextInt(6);
            }
            call("put", 0, i, sort);
        }
        long right = call("order", 0, -1);
        for (int i = 0; i <= right; i++) {
            call("order", 0, i);
        }
        call("dawn", 0, random.nextInt(6));
    }

    private void go() {
        start();
        int sum = 0;
        for (int weight : WEIGHTS) {
            sum += weight;
        }
        while (calls < 450) {
            int at = random.nextInt(sum);
            int i = 0;
            while (at >= WEIGHTS[i]) {
                at -= WEIGHTS[i++];
            }
            drawn(NAMES[i]);
        }
    }

    public static void main(String[] args) {
        for (int run = 1; run <= RUNS && wrong < 20; run++) {
            new RandomRuns(run).go();
        }
        if (args.length > 0 && args[0].equals("tell")) {
            System.out.println(ANSWERED);
        }
        System.out.println(wrong == 0 ? "RandomRuns: all answers are as due" : wrong + " answers are not as due");
        if (wrong != 0) {
            System.exit(1);
        }
    }
}
