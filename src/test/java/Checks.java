import java.io.IOException;
import java.nio.file.Files;
import java.nio.file.Path;
import java.util.HashSet;
import java.util.Set;

/** What the tests by hand share: rows of answers that are due, and boxes made ready for them. */
abstract class Checks {
    static final long BEYOND = -1000000001L;
    static final long NONE = -1000000002L;
    static final long STATE = -1000000003L;
    static final long FULL = -1000000004L;
    static final long KIND = -1000000005L;
    static final long PARTED = -1000000006L;
    private static final Path DOCUMENT = Path.of("..", "shared", "DOC.md");
    private static final Set<String> HELPERS = helpers();
    private static String document;
    private static String about = "";
    private static int row;
    private static int sentences;
    private static int wrong;

    private static Set<String> helpers() {
        Set<String> names = new HashSet<>();
        for (var method : Checks.class.getDeclaredMethods()) {
            names.add(method.getName());
        }
        return names;
    }

    static void of(int promise) {
        about = "promise " + promise;
        row = 0;
    }

    /** A test of its own for the words of the document that name an edge: it has to ask something. */
    static void sentence(String words, Runnable test) {
        about = words;
        row = 0;
        sentences++;
        if (!documentText().contains(words)) {
            System.out.println("note: the document has no words \"" + words + "\"");
        }
        try {
            test.run();
        } catch (RuntimeException thrown) {
            fault("threw " + thrown);
        }
        if (row == 0) {
            fault("asks nothing");
        }
    }

    private static String documentText() {
        if (document == null) {
            try {
                document = Files.readString(DOCUMENT).replaceAll("\\s+", " ");
            } catch (IOException unread) {
                document = "";
            }
        }
        return document;
    }

    private static void fault(String says) {
        wrong++;
        System.out.println(about + ": " + says);
    }

    static void due(long got, long want) {
        row++;
        if (got != want) {
            int line = StackWalker.getInstance().walk(frames ->
                frames.filter(f -> !HELPERS.contains(f.getMethodName())).findFirst().get().getLineNumber());
            fault("row " + row + " (line " + line + ") answered " + got + ", due is " + want);
        }
    }

    static void ends(String name) {
        String ran = sentences > 0 ? ", " + sentences + " sentences" : "";
        System.out.println(name + ": " + (wrong == 0 ? "all answers are as due" + ran : wrong + " answers are not as due"));
        if (wrong != 0) {
            System.exit(1);
        }
    }

    /** THE HEAP from the first coin to the latest; 10 and more are MARKED. */
    static LastInBox box(int km, int... heap) {
        LastInBox x = new LastInBox();
        x.box(km);
        for (int sort : heap) {
            x.lay(sort % 10, sort / 10);
        }
        return x;
    }

    static void lays(LastInBox x, int many, int sort) {
        for (int i = 0; i < many; i++) {
            x.lay(sort, 0);
        }
    }

    /** A new one of PEOPLE with one coin of each SORT that is told. */
    static int person(LastInBox x, int... sorts) {
        int person = x.person();
        for (int sort : sorts) {
            x.give(person, sort, x.personIs(person, sort) + 1);
        }
        return person;
    }

    static int tape(LastInBox x, String text) {
        int answer = 0;
        for (int at = 0; at < text.length(); at += 8) {
            int n = Math.min(8, text.length() - at);
            long word = 0;
            for (int i = n - 1; i >= 0; i--) {
                word = word << 8 | text.charAt(at + i);
            }
            answer = x.feed(word, n);
        }
        return answer;
    }

    static int told(LastInBox x, int use, String text) {
        tape(x, text);
        return x.text(use);
    }

    static void row(LastInBox x, int sheet, int bits, int... numbers) {
        x.sheet(sheet, bits, numbers.length);
        for (int i = 0; i < numbers.length; i++) {
            x.put(sheet, i, numbers[i]);
        }
    }

    /** THE HEAP, the latest first, as coin() tells it. */
    static void heapIs(LastInBox x, int... coins) {
        due(x.count(0), coins.length);
        for (int i = 0; i < coins.length; i++) {
            due(x.coin(i), coins[i]);
        }
    }

    /** CHANGE for a coin: the SORTS as they come out. */
    static void gives(LastInBox x, int sort, int right, int... sorts) {
        due(x.change(sort, 1), sorts.length);
        for (int i = 0; i < sorts.length; i++) {
            due(x.change(sort, 4 + i), sorts[i]);
        }
        due(x.change(sort, 4 + sorts.length), NONE);
        due(x.change(sort, 2), right);
    }

    /** THE TRACE, whole. */
    static void traceIs(LastInBox x, int... bodies) {
        due(x.count(7), bodies.length);
        for (int i = 0; i < bodies.length; i++) {
            due(x.body(i), bodies[i]);
        }
        due(x.body(bodies.length), NONE);
    }

    static void says(int km, int voice, int x, long answer, int... bodies) {
        LastInBox box = box(km);
        due(box.voice(voice, x), answer);
        traceIs(box, bodies);
    }

    /** By way of GIVES: the only coin (of WORTH 5, LEFT 7, k 0, m 2) is given if the text is of that value. */
    static void isValue(String text, int value) {
        // No NUMBER has more than 4 digits, so that a value is held up in parts.
        isSmall("(" + text + ")%9999", value % 9999);
        isSmall("(" + text + ")/9999%9999", value / 9999 % 9999);
        isSmall("(" + text + ")/9999/9999", value / 9999 / 9999);
    }

    private static void isSmall(String text, int value) {
        LastInBox x = box(62, 2);
        due(told(x, 0, text + "=" + (value < 0 ? "0-" + -value : "" + value)), 1);
        due(x.change(3, 1), 1);
    }
}
