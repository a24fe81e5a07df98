/** Each sentence of the promises 1 to 18, and on DRAWS, that names an edge, with a test of its own. */
public final class ActSentences extends Checks {
    private static final int MIN = Integer.MIN_VALUE;
    private static final int MAX = Integer.MAX_VALUE;

    private static void aNewObject() {
        sentence("All as at first; no PEOPLE.", () -> {
            LastInBox x = new LastInBox();
            int[] counts = {0, 0, 0, 0, 3, 0, 0, 0, 1, 1, 2, 5, 10, 20, 50, 1, 0};
            for (int i = 0; i < counts.length; i++) {
                due(x.count(i), counts[i]);
            }
            for (int k = 1; k <= 6; k++) {
                due(x.told(k), 0);
            }
            due(x.untell(0), 0);
            due(x.untell(1), 0);
            due(x.check(), 0);
            due(x.personIs(0, 0), BEYOND);
            due(x.body(0), NONE);
            for (int sheet = 0; sheet < 4; sheet++) {
                due(x.lays(sheet), NONE);
            }
            due(x.restore(), NONE);
            due(x.image(), 1);
        });
        sentence("`LastInBox()`", () -> {
            // Two of them have nothing in common.
            LastInBox x = new LastInBox();
            LastInBox y = new LastInBox();
            x.worth(0, 9);
            x.ticket(1);
            x.lay(0, 0);
            x.person();
            x.sheet(0, 8, 1);
            x.image();
            x.tell(1);
            x.feed(1, 1);
            x.voice(0, 0);
            x.seed(5);
            x.box(0);
            x.lay(9, 9);
            int[] counts = {0, 0, 0, 0, 3, 0, 0, 0, 1, 1, 2, 5, 10, 20, 50, 1, 0};
            for (int i = 0; i < counts.length; i++) {
                due(y.count(i), counts[i]);
            }
            due(y.told(1), 0);
            due(y.lays(0), NONE);
            due(y.restore(), NONE);
        });
    }

    private static void worthTicketBox() {
        sentence("WORTH of a SORT becomes v: what it was. BEYOND.", () -> {
            LastInBox x = box(10, 3);
            due(x.worth(3, 11), 10);
            due(x.worth(3, 99), 11);
            due(x.worth(3, 1), 99);
            due(x.worth(3, 0), BEYOND);
            due(x.worth(3, 100), BEYOND);
            due(x.worth(3, MIN), BEYOND);
            due(x.worth(3, MAX), BEYOND);
            due(x.worth(-1, 1), BEYOND);
            due(x.worth(6, 1), BEYOND);
            due(x.worth(0, 1), 1);
            due(x.worth(5, 50), 50);
            // Coins that lie there, and those in PURSES, are worth what their SORT is.
            person(x, 3);
            due(x.count(1), 1);
            x.worth(3, 7);
            due(x.count(1), 7);
            due(x.personIs(0, 6), 7);
        });
        sentence("THE TICKET costs v: what it did. BEYOND.", () -> {
            LastInBox x = new LastInBox();
            due(x.ticket(0), 3);
            due(x.count(4), 0);
            due(x.ticket(99), 0);
            due(x.ticket(-1), BEYOND);
            due(x.ticket(100), BEYOND);
            due(x.ticket(MIN), BEYOND);
            due(x.count(4), 99);
        });
        sentence("THE BOX becomes one of a KIND, with m (km: 10 times the KIND, and m): the km that it was. BEYOND.", () -> {
            LastInBox x = new LastInBox();
            due(x.box(0), 10);
            due(x.box(69), 0);
            due(x.box(70), BEYOND);
            due(x.box(-1), BEYOND);
            due(x.box(-10), BEYOND);
            due(x.box(MAX), BEYOND);
            due(x.box(MIN), BEYOND);
            due(x.count(15), 6);
            due(x.count(16), 9);
            for (int kind = 0; kind < 7; kind++) {
                x.box(10 * kind + kind);
                due(x.count(15), kind);
                due(x.count(16), kind);
            }
        });
        sentence("KIND: it is not of that KIND, nor of one under it.", () -> {
            int[] isOne = {0b0000001, 0b0000011, 0b0000101, 0b0001001, 0b0010011, 0b0100101, 0b1000011};
            for (int kind = 0; kind < 7; kind++) {
                LastInBox x = box(10 * kind, 0, 0, 0);
                for (int as = 0; as < 7; as++) {
                    due(x.as(as), (isOne[kind] >> as & 1) == 1 ? 3 : KIND);
                }
            }
        });
        sentence("THE BOX as one of a KIND: how many coins lie there. BEYOND.", () -> {
            LastInBox x = new LastInBox();
            due(x.as(1), 0);
            due(x.as(0), 0);
            lays(x, 24, 0);
            due(x.as(1), 24);
            due(x.as(-1), BEYOND);
            due(x.as(7), BEYOND);
            due(x.as(MIN), BEYOND);
        });
    }

    private static void laying() {
        sentence("A coin (MARKED 1, or 0) is laid on as the latest one: how many lie there. BEYOND. FULL.", () -> {
            LastInBox x = new LastInBox();
            due(x.lay(5, 1), 1);
            due(x.lay(0, 0), 2);
            heapIs(x, 0, 51);
            due(x.lay(0, 2), BEYOND);
            due(x.lay(0, -1), BEYOND);
            due(x.lay(-1, 0), BEYOND);
            due(x.lay(6, 0), BEYOND);
            lays(x, 22, 1);
            due(x.count(0), 24);
            due(x.lay(0, 0), FULL);
            due(x.lay(0, 2), BEYOND);
            x.empty();
            due(x.lay(0, 0), 1);
        });
        sentence("THE HEAP is emptied: what it was worth.", () -> {
            LastInBox x = box(10, 5, 10, 1);
            due(x.empty(), 53);
            due(x.count(0), 0);
            due(x.coin(0), BEYOND);
            due(x.empty(), 0);
            for (int i = 0; i < 24; i++) {
                x.lay(5, 0);
            }
            x.worth(5, 99);
            due(x.empty(), 24 * 99);
            due(x.count(0), 0);
        });
        sentence("The i-th coin of THE HEAP (0 the latest): 10 times the SORT, and 1 if MARKED. BEYOND.", () -> {
            LastInBox x = new LastInBox();
            due(x.coin(0), BEYOND);
            x.lay(5, 1);
            x.lay(0, 0);
            due(x.coin(0), 0);
            due(x.coin(1), 51);
            due(x.coin(2), BEYOND);
            due(x.coin(-1), BEYOND);
            due(x.coin(MIN), BEYOND);
            due(x.coin(MAX), BEYOND);
            // What a coin has left behind is no coin.
            x.stranger(3);
            heapIs(x, 30);
            due(x.coin(1), BEYOND);
        });
    }

    private static void peopleAndPurses() {
        sentence("One of PEOPLE: the number. FULL.", () -> {
            LastInBox x = new LastInBox();
            for (int i = 0; i < 6; i++) {
                due(x.person(), i);
            }
            due(x.person(), FULL);
            due(x.person(), FULL);
            due(x.count(2), 6);
        });
        sentence("Of one: 0 .. 5 how many coins of that SORT, 6 what all are worth, 7 MARKS. BEYOND.", () -> {
            LastInBox x = box(10, 10);
            person(x);
            person(x, 0, 1, 1, 2, 3, 4, 5);
            int[] is = {1, 2, 1, 1, 1, 1, 90, 0};
            for (int what = 0; what < 8; what++) {
                due(x.personIs(1, what), is[what]);
                due(x.personIs(0, what), 0);
            }
            due(x.go(1, 2), 1);
            due(x.personIs(1, 7), 1);
            due(x.personIs(1, 8), BEYOND);
            due(x.personIs(1, -1), BEYOND);
            due(x.personIs(2, 0), BEYOND);
            due(x.personIs(-1, 0), BEYOND);
            for (int sort = 0; sort < 6; sort++) {
                x.give(0, sort, 99);
                x.worth(sort, 99);
            }
            due(x.personIs(0, 6), 6 * 99 * 99);
        });
        sentence("How many coins of a SORT one has becomes v: what it was. BEYOND.", () -> {
            LastInBox x = new LastInBox();
            due(x.give(0, 0, 1), BEYOND);
            person(x);
            due(x.give(0, 0, 99), 0);
            due(x.give(0, 0, 0), 99);
            due(x.give(0, 5, 1), 0);
            due(x.give(0, 5, 100), BEYOND);
            due(x.give(0, 5, -1), BEYOND);
            due(x.give(0, 6, 1), BEYOND);
            due(x.give(0, -1, 1), BEYOND);
            due(x.give(1, 0, 1), BEYOND);
            due(x.give(-1, 0, 1), BEYOND);
            due(x.personIs(0, 5), 1);
            due(x.personIs(0, 4), 0);
        });
    }

    private static void feedAndText() {
        sentence("The n lowest bytes (1 .. 8) of a word, the lowest first, come to THE TAPE: how many there are.", () -> {
            // w, + and 1; what lies above them doesn't come.
            LastInBox x = new LastInBox();
            due(x.feed(0x7c7c7c7c7c312b77L, 3), 3);
            due(x.text(0), 1);
            due(x.feed(0x772b772b772b772bL, 8), 8);
            due(x.text(0), -10);
            due(x.feed(0x6b2b6b2b6b2b6b77L, 8), 8);
            due(x.text(0), -11);
            due(x.feed(0x2b6b2b6b2b6b2b77L, 8), 8);
            due(x.feed('w', 1), 9);
            due(x.text(0), 1);
            // The highest byte of a word below 0.
            due(x.feed(-1L, 8), 8);
            due(x.text(0), -10);
            due(x.feed(0xff2b77L, 3), 3);
            due(x.text(0), -12);
        });
        sentence("come to THE TAPE: how many there are. BEYOND. FULL.", () -> {
            LastInBox x = new LastInBox();
            due(x.feed(0, 0), BEYOND);
            due(x.feed(0, 9), BEYOND);
            due(x.feed(0, MIN), BEYOND);
            due(x.feed(0, MAX), BEYOND);
            for (int i = 1; i <= 7; i++) {
                due(x.feed('w', 8), 8 * i);
            }
            due(x.feed('w', 5), FULL);
            due(x.count(5), 56);
            due(x.feed('w', 4), 60);
            due(x.feed('w', 1), FULL);
            due(x.feed('w', 0), BEYOND);
            due(x.feed('w', 9), BEYOND);
        });
        sentence("THE TAPE, which is empty then, is the TEXT of a USE (0, 1), in place of one ahead: 1.", () -> {
            LastInBox x = box(60, 0, 1, 2);
            due(told(x, 0, "w=1"), 1);
            due(x.count(5), 0);
            gives(x, 3, 0, 0);
            due(told(x, 0, "w=2"), 1);
            gives(x, 3, 0, 1);
            // That of the other USE is another one.
            due(told(x, 1, "w=5"), 1);
            gives(x, 3, 0, 1);
            due(x.untell(1), 1);
            gives(x, 3, 0, 1);
            due(x.untell(1), 0);
            due(x.untell(0), 1);
        });
        sentence("BEYOND (THE TAPE stays).", () -> {
            LastInBox x = new LastInBox();
            tape(x, "w+");
            due(x.text(2), BEYOND);
            due(x.text(-1), BEYOND);
            due(x.text(MIN), BEYOND);
            due(x.count(5), 2);
            tape(x, "1");
            due(x.text(0), 1);
        });
        sentence("-10 less the FAULT (no ERROR; the one ahead stays; THE TAPE is empty, too).", () -> {
            LastInBox x = box(60, 0, 1, 2);
            due(x.text(0), -10);
            due(x.untell(0), 0);
            due(told(x, 0, "w=1"), 1);
            due(told(x, 0, "w=2="), -13);
            due(x.count(5), 0);
            gives(x, 3, 0, 0);
            due(told(x, 0, "w=2)"), -13);
            due(x.count(5), 0);
            gives(x, 3, 0, 0);
            due(x.text(0), -10);
            due(x.untell(0), 1);
            for (int k = 1; k <= 6; k++) {
                due(x.told(k), k == 2 ? 2 : 0);
            }
        });
        sentence("There is no TEXT of a USE any more: 1 if there was, else 0. BEYOND.", () -> {
            LastInBox x = new LastInBox();
            due(x.untell(0), 0);
            told(x, 0, "1");
            due(x.untell(1), 0);
            due(x.untell(0), 1);
            due(x.untell(0), 0);
            told(x, 1, "1");
            due(x.untell(0), 0);
            due(x.untell(1), 1);
            due(x.untell(2), BEYOND);
            due(x.untell(-1), BEYOND);
        });
    }

    private static void goes() {
        sentence("A GO: what CHANGE was worth. BEYOND.", () -> {
            LastInBox x = box(10, 1, 2);
            due(x.go(0, 3), BEYOND);
            person(x, 3);
            due(x.go(0, -1), BEYOND);
            due(x.go(0, 6), BEYOND);
            due(x.go(1, 3), BEYOND);
            due(x.go(-1, 3), BEYOND);
            due(x.go(0, 3), 7);
            due(x.personIs(0, 6), 7);
        });
        sentence("STATE: there is no such coin in the PURSE; its WORTH is below THE TICKET.", () -> {
            LastInBox x = box(10, 5);
            person(x, 1);
            due(x.go(0, 3), STATE);
            due(x.go(0, 1), STATE);
            due(x.personIs(0, 1), 1);
            due(x.count(3), 0);
            x.ticket(2);
            due(x.go(0, 1), 0);
            due(x.personIs(0, 1), 0);
            heapIs(x, 10, 50);
            due(x.go(0, 1), STATE);
        });
        sentence("A STRANGER's GO: what CHANGE was worth. BEYOND. STATE: its WORTH is below THE TICKET.", () -> {
            LastInBox x = box(10, 5);
            due(x.stranger(-1), BEYOND);
            due(x.stranger(6), BEYOND);
            due(x.stranger(1), STATE);
            due(x.count(3), 0);
            x.ticket(2);
            due(x.stranger(1), 0);
            due(x.stranger(0), STATE);
            x.ticket(1);
            due(x.stranger(1), 2);
            heapIs(x, 10, 50);
        });
    }

    /** The draws from z on: how many of the next n are of a SORT from the least one on. */
    private static int drawn(int z, int n, int least) {
        int at = z;
        int of = 0;
        for (int i = 0; i < n; i++) {
            at = at * 1103515245 + 12345;
            of += (at >>> 8) % 6 >= least ? 1 : 0;
        }
        return of;
    }

    private static void draws() {
        sentence("n (1 .. 60) GOES BY DRAWS: how many of them weren't RIGHT. BEYOND.", () -> {
            LastInBox x = box(0);
            due(x.draws(0), BEYOND);
            due(x.draws(61), BEYOND);
            due(x.draws(MIN), BEYOND);
            due(x.draws(MAX), BEYOND);
            due(x.count(8), 1);
            // With a ticket of 5 a 5 is RIGHT, and 10, 20, 50 aren't.
            x.ticket(5);
            due(x.draws(60), drawn(1, 60, 3));
            due(x.count(3), drawn(1, 60, 2));
            x.seed(9);
            due(x.draws(1), drawn(9, 1, 3));
        });
        sentence("a draw's rest by 6 is the SORT; if its WORTH is below THE TICKET nothing comes of it", () -> {
            LastInBox x = box(0);
            // 1103527590 >>> 8 is 4310654, which leaves 2.
            x.ticket(6);
            due(x.draws(1), 0);
            due(x.count(8), 1103527590);
            due(x.count(0), 0);
            due(x.count(3), 0);
            x.seed(1);
            x.ticket(5);
            due(x.draws(1), 0);
            heapIs(x, 20);
            due(x.count(3), 1);
            x.seed(1);
            x.ticket(4);
            due(x.draws(1), 1);
        });
        sentence("(1 at first)", () -> due(new LastInBox().seed(7), 1));
        sentence("each makes it z * 1103515245 + 12345 (an int), and gives z >>> 8", () -> {
            // 2 * 1103515245 + 12345 wraps to below 0; its >>> 8 is none.
            int z = (int) (2L * 1103515245L + 12345L);
            due(z < 0 ? 1 : 0, 1);
            LastInBox x = box(0);
            x.ticket(0);
            x.seed(2);
            x.draws(1);
            due(x.count(8), z);
            due(x.coin(0), (z >>> 8) % 6 * 10);
            for (int seed : new int[] {MIN, MAX, -1, 0, -1000000001}) {
                x.empty();
                x.seed(seed);
                x.draws(1);
                int next = (int) (seed * 1103515245L + 12345L);
                due(x.count(8), next);
                due(x.coin(0), (next >>> 8) % 6 * 10);
            }
        });
        sentence("z becomes v: what it was (any number).", () -> {
            LastInBox x = new LastInBox();
            due(x.seed(MIN), 1);
            due(x.seed(-1000000001), MIN);
            due(x.seed(-1000000006), -1000000001);
            due(x.seed(MAX), -1000000006);
            due(x.seed(0), MAX);
            for (int k = 1; k <= 6; k++) {
                due(x.told(k), 0);
            }
        });
    }

    public static void main(String[] args) {
        aNewObject();
        worthTicketBox();
        laying();
        peopleAndPurses();
        feedAndText();
        goes();
        draws();
        ends("ActSentences");
    }
}
