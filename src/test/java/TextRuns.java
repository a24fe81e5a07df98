import java.util.Random;

/** All short texts and many drawn ones: whether each is a TEXT, and where not, as PlainModel says. */
public final class TextRuns {
    private static final String SIGNS = "w1!()<+|";
    private static final int MOST_CALLS = 500;
    private static LastInBox box = new LastInBox();
    private static int calls;
    private static int wrong;

    private static void tries(String text, int use) {
        if (calls + 10 > MOST_CALLS) {
            box = new LastInBox();
            calls = 0;
        }
        for (int at = 0; at < text.length(); at += 8) {
            int n = Math.min(8, text.length() - at);
            long word = 0;
            for (int i = n - 1; i >= 0; i--) {
                word = word << 8 | text.charAt(at + i);
            }
            box.feed(word, n);
            calls++;
        }
        int got = box.text(use);
        calls++;
        int fault = PlainModel.fault(text, use == 0 ? "wlkm" : "swt");
        int want = fault < 0 ? 1 : -10 - fault;
        if (got != want && wrong++ < 20) {
            System.out.println("text(" + use + ") of " + text + " answered " + got + ", due is " + want);
        }
    }

    private static void allUpTo(int length, String ahead) {
        tries(ahead, 0);
        if (ahead.length() < length) {
            for (int i = 0; i < SIGNS.length(); i++) {
                allUpTo(length, ahead + SIGNS.charAt(i));
            }
        }
    }

    /** A sign that may well go on from there, so that texts get long. */
    private static String drawn(Random random) {
        StringBuilder text = new StringBuilder();
        int length = random.nextInt(61);
        String all = "wlkmst0123456789!()<=>|&+-*/% ";
        while (text.length() < length) {
            char sign = all.charAt(random.nextInt(all.length()));
            text.append(sign);
            int fault = PlainModel.fault(text.toString(), "wlkm");
            if (fault >= 0 && fault < text.length() && random.nextInt(200) > 0) {
                text.setLength(text.length() - 1);
            }
        }
        return text.toString();
    }

    public static void main(String[] args) {
        allUpTo(5, "");
        Random random = new Random(60);
        for (int i = 0; i < 20000; i++) {
            tries(drawn(random), random.nextInt(8) == 0 ? 1 : 0);
        }
        System.out.println(wrong == 0 ? "TextRuns: all answers are as due" : wrong + " answers are not as due");
        if (wrong != 0) {
            System.exit(1);
        }
    }
}
