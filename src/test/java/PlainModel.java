import java.math.BigInteger;
import java.util.ArrayDeque;
import java.util.ArrayList;
import java.util.Arrays;
import java.util.Comparator;
import java.util.List;

/**
 * The document once more, in its plainest form and without a thought of speed: every row of goes is
 * worked out whole, TEXTS are taken apart as strings, errors are thrown. RandomRuns holds LastInBox to it.
 */
public final class PlainModel {
    private static final int LOW = -1000000000;
    private static final int BEYOND = 1, NONE = 2, STATE = 3, FULL = 4, KIND = 5, PARTED = 6;
    private static final int[] ABOVE = {-1, 0, 0, 0, 1, 2, 1};

    private static final class Err extends RuntimeException {
        final int k;
        Err(int k) {
            super(null, null, false, false);
            this.k = k;
        }
    }

    private record Coin(int sort, boolean marked) { }

    private static final class World {
        int[] worth = {1, 2, 5, 10, 20, 50};
        int ticket = 3, kind = 1, m = 0, taken = 0, z = 1;
        List<Coin> heap = new ArrayList<>();
        List<int[]> people = new ArrayList<>();
        StringBuilder tape = new StringBuilder();
        String[] texts = new String[2];
        List<Integer> waits = new ArrayList<>();

        World copy() {
            World w = new World();
            w.worth = worth.clone();
            w.ticket = ticket;
            w.kind = kind;
            w.m = m;
            w.taken = taken;
            w.z = z;
            w.heap = new ArrayList<>(heap);
            for (int[] p : people) {
                w.people.add(p.clone());
            }
            w.tape = new StringBuilder(tape);
            w.texts = texts.clone();
            w.waits = new ArrayList<>(waits);
            return w;
        }
    }

    private static final class Row {
        int bits;
        int[] numbers;
    }

    private World w = new World();
    private World kept;
    private int images;
    private final Row[] rows = new Row[4];
    private List<Integer> trace = new ArrayList<>();
    private final int[] told = new int[7];

    private interface Act {
        long does();
    }

    private long act(Act a) {
        try {
            return a.does();
        } catch (Err e) {
            told[e.k]++;
            return LOW - e.k;
        }
    }

    private static void need(boolean ok, int k) {
        if (!ok) {
            throw new Err(k);
        }
    }

    private static boolean in(int v, int from, int to) {
        return v >= from && v <= to;
    }

    // ---- change

    private static List<Coin> change(World w, List<Coin> heap, int kind, int sort) {
        List<Coin> looked = new ArrayList<>(heap);
        if (kind == 1 || kind == 3 || kind == 4 || kind == 6) {
            java.util.Collections.reverse(looked);
        }
        if (kind == 3) {
            looked.sort(Comparator.comparingInt((Coin c) -> -w.worth[c.sort]));
        }
        if (kind == 0) {
            looked.clear();
        }
        int left = w.worth[sort] - w.ticket;
        List<Coin> out = new ArrayList<>();
        for (Coin c : looked) {
            if (left <= 0) {
                break;
            }
            int worth = w.worth[c.sort];
            boolean fits = worth <= left;
            if (kind == 4 && !fits) {
                break;
            }
            boolean gives = switch (kind) {
                case 3, 5 -> fits;
                case 6 -> w.texts[0] == null ? fits
                    : value(w.texts[0], "wlkm", new int[] {worth, left, out.size(), w.m}) != 0;
                default -> true;
            };
            if (gives) {
                out.add(c);
                left -= worth;
                for (int i = 0; i < heap.size(); i++) {
                    if (heap.get(i) == c) {
                        heap.remove(i);
                        break;
                    }
                }
            }
        }
        return out;
    }

    private static int sum(World w, List<Coin> coins) {
        int sum = 0;
        for (Coin c : coins) {
            sum += w.worth[c.sort];
        }
        return sum;
    }

    private static boolean right(World w, List<Coin> out, int sort) {
        return sum(w, out) == w.worth[sort] - w.ticket;
    }

    private static boolean pays(World w, int sort) {
        return in(sort, 0, 5) && w.worth[sort] >= w.ticket;
    }

    private static List<Coin> goes(World w, int sort) {
        List<Coin> out = change(w, w.heap, w.kind, sort);
        if (w.heap.size() < 24) {
            w.heap.add(new Coin(sort, false));
        }
        w.taken++;
        return out;
    }

    private static List<Coin> personGoes(World w, int person, int sort) {
        int[] purse = w.people.get(person);
        purse[sort]--;
        List<Coin> out = goes(w, sort);
        for (Coin c : out) {
            purse[c.sort] = Math.min(99, purse[c.sort] + 1);
            purse[6] += c.marked ? 1 : 0;
        }
        return out;
    }

    // ---- texts

    private static int value(String t, String names, int[] given) {
        for (String signs : new String[] {"|", "&", "<=>", "+-", "*/%"}) {
            int open = 0;
            for (int i = t.length() - 1; i > 0; i--) {
                char c = t.charAt(i);
                open += c == ')' ? 1 : c == '(' ? -1 : 0;
                if (open == 0 && signs.indexOf(c) >= 0) {
                    int a = value(t.substring(0, i), names, given);
                    int b = value(t.substring(i + 1), names, given);
                    return switch (c) {
                        case '|' -> a != 0 || b != 0 ? 1 : 0;
                        case '&' -> a != 0 && b != 0 ? 1 : 0;
                        case '<' -> a < b ? 1 : 0;
                        case '=' -> a == b ? 1 : 0;
                        case '>' -> a > b ? 1 : 0;
                        case '+' -> a + b;
                        case '-' -> a - b;
                        case '*' -> a * b;
                        case '/' -> b == 0 ? 0 : a / b;
                        default -> b == 0 ? 0 : a % b;
                    };
                }
            }
        }
        char first = t.charAt(0);
        if (first == '!') {
            return value(t.substring(1), names, given) == 0 ? 1 : 0;
        }
        if (first == '(') {
            return value(t.substring(1, t.length() - 1), names, given);
        }
        int name = names.indexOf(first);
        return name >= 0 ? given[name] : Integer.parseInt(t);
    }

    /** -1 if it is a TEXT: goes over the bytes one by one, with what is open on a stack. */
    static int fault(String t, String names) {
        ArrayDeque<Character> open = new ArrayDeque<>();
        ArrayDeque<Boolean> outer = new ArrayDeque<>();
        boolean compared = false;
        boolean wantsOperand = true;
        int digits = 0;
        for (int i = 0; i < t.length(); i++) {
            char c = t.charAt(i);
            if (wantsOperand) {
                if (c == '!' || c == '(') {
                    if (open.size() == 5) {
                        return i;
                    }
                    open.push(c);
                    if (c == '(') {
                        outer.push(compared);
                        compared = false;
                    }
                    continue;
                }
                boolean digit = c >= '0' && c <= '9';
                if (!digit && names.indexOf(c) < 0) {
                    return i;
                }
                digits = digit ? 1 : 0;
            } else if (c >= '0' && c <= '9') {
                if (digits == 0 || digits == 4) {
                    return i;
                }
                digits++;
            } else if (c == ')') {
                if (open.isEmpty()) {
                    return i;
                }
                open.pop();
                compared = outer.pop();
                digits = 0;
            } else if ("<=>".indexOf(c) >= 0) {
                if (compared) {
                    return i;
                }
                compared = true;
                wantsOperand = true;
                continue;
            } else if ("|&".indexOf(c) >= 0) {
                compared = false;
                wantsOperand = true;
                continue;
            } else if ("+-*/%".indexOf(c) >= 0) {
                wantsOperand = true;
                continue;
            } else {
                return i;
            }
            wantsOperand = false;
            while (!open.isEmpty() && open.peek() == '!') {
                open.pop();
            }
        }
        return wantsOperand || !open.isEmpty() ? t.length() : -1;
    }

    private static int likes(World w, int sort) {
        int v = w.texts[1] == null ? w.worth[sort]
            : value(w.texts[1], "swt", new int[] {sort, w.worth[sort], w.taken});
        return Math.max(-999, Math.min(999, v));
    }

    // ---- the face

    public int worth(int sort, int v) {
        return (int) act(() -> {
            need(in(sort, 0, 5) && in(v, 1, 99), BEYOND);
            int was = w.worth[sort];
            w.worth[sort] = v;
            return was;
        });
    }

    public int ticket(int v) {
        return (int) act(() -> {
            need(in(v, 0, 99), BEYOND);
            int was = w.ticket;
            w.ticket = v;
            return was;
        });
    }

    public int box(int km) {
        return (int) act(() -> {
            need(in(km, 0, 69), BEYOND);
            int was = 10 * w.kind + w.m;
            w.kind = km / 10;
            w.m = km % 10;
            return was;
        });
    }

    public int as(int kind) {
        return (int) act(() -> {
            need(in(kind, 0, 6), BEYOND);
            boolean is = false;
            for (int k = w.kind; k >= 0; k = ABOVE[k]) {
                is |= k == kind;
            }
            need(is, KIND);
            return w.heap.size();
        });
    }

    public int lay(int sort, int marked) {
        return (int) act(() -> {
            need(in(sort, 0, 5) && in(marked, 0, 1), BEYOND);
            need(w.heap.size() < 24, FULL);
            w.heap.add(new Coin(sort, marked == 1));
            return w.heap.size();
        });
    }

    public int empty() {
        int was = sum(w, w.heap);
        w.heap.clear();
        return was;
    }

    public int coin(int i) {
        return (int) act(() -> {
            need(in(i, 0, w.heap.size() - 1), BEYOND);
            Coin c = w.heap.get(w.heap.size() - 1 - i);
            return 10 * c.sort + (c.marked ? 1 : 0);
        });
    }

    public int person() {
        return (int) act(() -> {
            need(w.people.size() < 6, FULL);
            w.people.add(new int[7]);
            return w.people.size() - 1;
        });
    }

    private boolean isPerson(int p) {
        return in(p, 0, w.people.size() - 1);
    }

    public int personIs(int person, int what) {
        return (int) act(() -> {
            need(isPerson(person) && in(what, 0, 7), BEYOND);
            int[] purse = w.people.get(person);
            if (what != 6) {
                return purse[what == 7 ? 6 : what];
            }
            int sum = 0;
            for (int s = 0; s < 6; s++) {
                sum += purse[s] * w.worth[s];
            }
            return sum;
        });
    }

    public int give(int person, int sort, int v) {
        return (int) act(() -> {
            need(isPerson(person) && in(sort, 0, 5) && in(v, 0, 99), BEYOND);
            int was = w.people.get(person)[sort];
            w.people.get(person)[sort] = v;
            return was;
        });
    }

    public int feed(long word, int n) {
        return (int) act(() -> {
            need(in(n, 1, 8), BEYOND);
            need(w.tape.length() + n <= 60, FULL);
            long rest = word;
            for (int i = 0; i < n; i++) {
                w.tape.append((char) (rest & 255));
                rest >>= 8;
            }
            return w.tape.length();
        });
    }

    public int text(int use) {
        return (int) act(() -> {
            need(in(use, 0, 1), BEYOND);
            String t = w.tape.toString();
            w.tape.setLength(0);
            int fault = fault(t, use == 0 ? "wlkm" : "swt");
            if (fault >= 0) {
                return -10 - fault;
            }
            w.texts[use] = t;
            return 1;
        });
    }

    public int untell(int use) {
        return (int) act(() -> {
            need(in(use, 0, 1), BEYOND);
            boolean was = w.texts[use] != null;
            w.texts[use] = null;
            return was ? 1 : 0;
        });
    }

    public int go(int person, int sort) {
        return (int) act(() -> {
            need(isPerson(person) && in(sort, 0, 5), BEYOND);
            need(w.people.get(person)[sort] > 0 && pays(w, sort), STATE);
            return sum(w, personGoes(w, person, sort));
        });
    }

    public int stranger(int sort) {
        return (int) act(() -> {
            need(in(sort, 0, 5), BEYOND);
            need(pays(w, sort), STATE);
            return sum(w, goes(w, sort));
        });
    }

    public int draws(int n) {
        return (int) act(() -> {
            need(in(n, 1, 60), BEYOND);
            int not = 0;
            for (int i = 0; i < n; i++) {
                w.z = w.z * 1103515245 + 12345;
                int sort = (w.z >>> 8) % 6;
                if (pays(w, sort) && !right(w, goes(w, sort), sort)) {
                    not++;
                }
            }
            return not;
        });
    }

    public int seed(int v) {
        int was = w.z;
        w.z = v;
        return was;
    }

    public int change(int sort, int what) {
        return (int) act(() -> {
            need(in(sort, 0, 5) && what >= 0, BEYOND);
            need(pays(w, sort), STATE);
            List<Coin> out = change(w, new ArrayList<>(w.heap), w.kind, sort);
            need(what < 4 || what - 4 < out.size(), NONE);
            return switch (what) {
                case 0 -> sum(w, out);
                case 1 -> out.size();
                case 2 -> right(w, out, sort) ? 1 : 0;
                case 3 -> (int) out.stream().filter(Coin::marked).count();
                default -> out.get(what - 4).sort;
            };
        });
    }

    public int dear(int person) {
        return (int) act(() -> {
            need(isPerson(person), BEYOND);
            List<int[]> found = new ArrayList<>();
            for (int s = 0; s < 6; s++) {
                if (w.people.get(person)[s] > 0 && pays(w, s)) {
                    int gain = -likes(w, s);
                    for (Coin c : change(w, new ArrayList<>(w.heap), w.kind, s)) {
                        gain += likes(w, c.sort);
                    }
                    found.add(new int[] {gain, s});
                }
            }
            need(!found.isEmpty(), NONE);
            found.sort(Comparator.comparingInt(f -> -f[0]));
            return found.get(0)[1];
        });
    }

    public int get(int person, int sort, int n) {
        return (int) act(() -> {
            need(isPerson(person) && in(sort, 0, 5) && in(n, 0, 4), BEYOND);
            int now = w.people.get(person)[sort];
            List<World> level = new ArrayList<>(List.of(w.copy()));
            for (int goes = 1; goes <= n; goes++) {
                List<World> next = new ArrayList<>();
                for (World from : level) {
                    for (int s = 0; s < 6; s++) {
                        if (from.people.get(person)[s] > 0 && pays(from, s)) {
                            World to = from.copy();
                            personGoes(to, person, s);
                            if (to.people.get(person)[sort] > now) {
                                return goes;
                            }
                            next.add(to);
                        }
                    }
                }
                level = next;
            }
            throw new Err(NONE);
        });
    }

    private Row row(int sheet) {
        need(in(sheet, 0, 3), BEYOND);
        return rows[sheet];
    }

    private List<int[]> queue(Row row) {
        List<int[]> queue = new ArrayList<>();
        for (int i = 0; i < row.numbers.length && i < w.people.size(); i++) {
            int s = row.numbers[i];
            if (in(s, 0, 5) && w.people.get(i)[s] > 0 && pays(w, s)) {
                queue.add(new int[] {i, s});
            }
        }
        return queue;
    }

    private static int rights(World from, List<int[]> queue) {
        World w = from.copy();
        int right = 0;
        for (int[] q : queue) {
            right += right(w, personGoes(w, q[0], q[1]), q[1]) ? 1 : 0;
        }
        return right;
    }

    private static void rowsOf(List<int[]> rest, List<int[]> ahead, List<List<int[]>> all) {
        if (rest.isEmpty()) {
            all.add(new ArrayList<>(ahead));
        }
        for (int i = 0; i < rest.size(); i++) {
            List<int[]> less = new ArrayList<>(rest);
            ahead.add(less.remove(i));
            rowsOf(less, ahead, all);
            ahead.remove(ahead.size() - 1);
        }
    }

    public int order(int sheet, int i) {
        return (int) act(() -> {
            need(in(sheet, 0, 3) && i >= -1, BEYOND);
            Row row = row(sheet);
            need(row != null, NONE);
            List<int[]> queue = queue(row);
            need(i < queue.size(), NONE);
            List<List<int[]>> all = new ArrayList<>();
            rowsOf(queue, new ArrayList<>(), all);
            List<int[]> best = null;
            int most = -1;
            for (List<int[]> one : all) {
                int right = rights(w, one);
                if (right > most) {
                    most = right;
                    best = one;
                }
            }
            return i < 0 ? most : best.get(i)[0];
        });
    }

    public int dawn(int sheet, int sort) {
        return (int) act(() -> {
            Row row = row(sheet);
            need(in(sort, 0, 5), BEYOND);
            need(row != null, NONE);
            List<int[]> queue = queue(row);
            for (int coins = 0; coins <= 9; coins++) {
                World would = w.copy();
                for (int i = 0; i < coins && would.heap.size() < 24; i++) {
                    would.heap.add(new Coin(sort, false));
                }
                if (rights(would, queue) == queue.size()) {
                    return coins;
                }
            }
            throw new Err(NONE);
        });
    }

    private static void rowsOfSorts(World w, int n, List<Integer> ahead, List<List<Integer>> all) {
        if (ahead.size() == n) {
            all.add(new ArrayList<>(ahead));
            return;
        }
        for (int s = 0; s < 6; s++) {
            if (pays(w, s)) {
                ahead.add(s);
                rowsOfSorts(w, n, ahead, all);
                ahead.remove(ahead.size() - 1);
            }
        }
    }

    public long wrong(int n, int part) {
        return act(() -> {
            need(in(n, 1, 4) && in(part, 0, 1), BEYOND);
            List<List<Integer>> all = new ArrayList<>();
            rowsOfSorts(w, n, new ArrayList<>(), all);
            need(!all.isEmpty(), STATE);
            int wrong = 0;
            for (List<Integer> one : all) {
                World would = w.copy();
                boolean right = true;
                for (int s : one) {
                    right &= right(would, goes(would, s), s);
                }
                wrong += right ? 0 : 1;
            }
            BigInteger above = BigInteger.valueOf(wrong);
            BigInteger below = BigInteger.valueOf(all.size());
            return (part == 0 ? above : below).divide(above.gcd(below)).longValue();
        });
    }

    public int again(int sort) {
        return (int) act(() -> {
            need(in(sort, 0, 5), BEYOND);
            need(pays(w, sort), STATE);
            World would = w.copy();
            for (int goes = 1; goes <= 60; goes++) {
                if (goes(would, sort).stream().anyMatch(Coin::marked)) {
                    return goes;
                }
            }
            throw new Err(NONE);
        });
    }

    public int must(int sheet, int sort) {
        return (int) act(() -> {
            Row row = row(sheet);
            need(in(sort, 0, 5), BEYOND);
            need(row != null, NONE);
            need(pays(w, sort), STATE);
            int bits = 0;
            for (int kind = 0; kind < 6; kind++) {
                int[] out = change(w, new ArrayList<>(w.heap), kind, sort).stream().mapToInt(Coin::sort).toArray();
                bits += Arrays.equals(out, row.numbers) ? 1 << kind : 0;
            }
            return bits;
        });
    }

    public int tally(int sheet, int what) {
        return (int) act(() -> {
            Row row = row(sheet);
            need(in(what, 0, 1), BEYOND);
            need(row != null && row.numbers.length <= 4, NONE);
            List<List<Integer>> all = new ArrayList<>();
            rowsOfSorts(w, row.numbers.length, new ArrayList<>(), all);
            List<Integer> fitting = new ArrayList<>();
            for (List<Integer> one : all) {
                World would = w.copy();
                boolean fits = true;
                int number = 0;
                for (int i = 0; i < one.size(); i++) {
                    fits &= goes(would, one.get(i)).size() == row.numbers[i];
                    number = number * 6 + one.get(i);
                }
                if (fits) {
                    fitting.add(number);
                }
            }
            need(what == 0 || !fitting.isEmpty(), NONE);
            return what == 0 ? fitting.size() : fitting.get(0);
        });
    }

    // ---- voices: a class for each KIND, so that Java's own super and overriding do the work

    private static class Box {
        int m;
        List<Integer> trace = new ArrayList<>();

        int drops(int x) {
            trace.add(10);
            return x + 1;
        }

        int gives(int x) {
            trace.add(11);
            return drops(x) * 2;
        }

        int keeps(int x) {
            trace.add(12);
            return gives(x) - m;
        }

        int parts(int x) {
            trace.add(13);
            need(m != 1, PARTED);
            return x / (m - 1);
        }
    }

    private static class Last extends Box {
        @Override int drops(int x) {
            trace.add(20);
            return super.drops(x) - 3;
        }

        @Override int parts(int x) {
            trace.add(21);
            return super.parts(x) + gives(1);
        }
    }

    private static class First extends Box {
        @Override int gives(int x) {
            trace.add(30);
            return 0 - super.gives(x);
        }
    }

    private static class Great extends Box {
        @Override int keeps(int x) {
            trace.add(40);
            return super.keeps(x / 2);
        }
    }

    private static class Keep extends Last {
        @Override int drops(int x) {
            trace.add(50);
            return super.drops(x) * 3;
        }

        @Override int keeps(int x) {
            trace.add(51);
            return super.keeps(x) ^ 1;
        }
    }

    private static class Round extends First {
        @Override int gives(int x) {
            trace.add(60);
            return super.gives(x + 1);
        }
    }

    private static class Told extends Last {
        @Override int drops(int x) {
            trace.add(70);
            return 2;
        }

        @Override int gives(int x) {
            trace.add(71);
            return super.gives(x) + m;
        }
    }

    public int voice(int voice, int x) {
        return (int) act(() -> {
            need(in(voice, 0, 3), BEYOND);
            Box box = switch (w.kind) {
                case 0 -> new Box();
                case 1 -> new Last();
                case 2 -> new First();
                case 3 -> new Great();
                case 4 -> new Keep();
                case 5 -> new Round();
                default -> new Told();
            };
            box.m = w.m;
            trace = box.trace;
            return switch (voice) {
                case 0 -> box.drops(x);
                case 1 -> box.gives(x);
                case 2 -> box.keeps(x);
                default -> box.parts(x);
            };
        });
    }

    public int body(int i) {
        return (int) act(() -> {
            need(in(i, 0, Math.min(30, trace.size()) - 1), NONE);
            return trace.get(i);
        });
    }

    // ---- sheets

    public int sheet(int sheet, int bits, int n) {
        return (int) act(() -> {
            need(in(sheet, 0, 3) && (bits == 0 || bits == 8 || bits == 16 || bits == 32), BEYOND);
            if (bits == 0) {
                rows[sheet] = null;
                return 1;
            }
            need(n >= 0, STATE);
            need(n <= 24, BEYOND);
            rows[sheet] = new Row();
            rows[sheet].bits = bits;
            rows[sheet].numbers = new int[n];
            return 1;
        });
    }

    public int put(int sheet, int i, int v) {
        return (int) act(() -> {
            Row row = row(sheet);
            need(row != null, NONE);
            need(in(i, 0, row.numbers.length - 1), BEYOND);
            row.numbers[i] = row.bits == 32 ? v : Math.floorMod(v, 1 << row.bits);
            return 1;
        });
    }

    public int move(int sheet, int i, int other, int j, int n) {
        return (int) act(() -> {
            need(in(sheet, 0, 3) && in(other, 0, 3), BEYOND);
            Row from = row(sheet);
            Row to = row(other);
            need(from != null && to != null, NONE);
            need(from.bits == to.bits, KIND);
            need(n >= 0 && i >= 0 && j >= 0, BEYOND);
            need((long) i + n <= from.numbers.length && (long) j + n <= to.numbers.length, BEYOND);
            int[] were = from.numbers.clone();
            for (int k = 0; k < n; k++) {
                to.numbers[j + k] = were[i + k];
            }
            return n;
        });
    }

    public int lays(int sheet) {
        return (int) act(() -> {
            Row row = row(sheet);
            need(row != null, NONE);
            int came = 0;
            for (int s : row.numbers) {
                if (!in(s, 0, 5) || w.heap.size() >= 24) {
                    break;
                }
                w.heap.add(new Coin(s, false));
                came++;
            }
            return came;
        });
    }

    public int image() {
        kept = w.copy();
        return ++images;
    }

    public int restore() {
        return (int) act(() -> {
            need(kept != null, NONE);
            w = kept.copy();
            return w.heap.size();
        });
    }

    public int tell(int v) {
        return (int) act(() -> {
            need(w.waits.size() < 24, FULL);
            w.waits.add(v);
            return w.waits.size();
        });
    }

    public int check() {
        List<Integer> sorts = new ArrayList<>();
        for (Coin c : w.heap) {
            sorts.add(0, c.sort);
        }
        List<Integer> waits = new ArrayList<>(w.waits);
        w.waits.clear();
        if (waits.equals(sorts)) {
            return 0;
        }
        int place = 0;
        while (place < waits.size() && place < sorts.size() && waits.get(place).equals(sorts.get(place))) {
            place++;
        }
        return 1 + place;
    }

    public int count(int what) {
        return (int) act(() -> {
            need(in(what, 0, 16), BEYOND);
            return switch (what) {
                case 0 -> w.heap.size();
                case 1 -> sum(w, w.heap);
                case 2 -> w.people.size();
                case 3 -> w.taken;
                case 4 -> w.ticket;
                case 5 -> w.tape.length();
                case 6 -> w.waits.size();
                case 7 -> Math.min(30, trace.size());
                case 8 -> w.z;
                case 15 -> w.kind;
                case 16 -> w.m;
                default -> w.worth[what - 9];
            };
        });
    }

    public int told(int k) {
        return (int) act(() -> {
            need(in(k, 1, 6), BEYOND);
            return told[k];
        });
    }
}
