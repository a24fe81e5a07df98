/** Each sentence on voices, sheets, images and what is told (Terms 4 and 5, promises 28 to 39) that names an edge. */
public final class VoiceSentences extends Checks {
    private static final int MIN = Integer.MIN_VALUE;
    private static final int MAX = Integer.MAX_VALUE;

    private static void bodies() {
        sentence("with a number x (ints that wrap)", () -> {
            says(0, 0, MAX, MIN, 10);
            says(0, 1, MAX, 0, 11, 10);
            says(0, 1, 1 << 30, MIN + 2, 11, 10);
            says(9, 2, MAX / 2, MAX - 8, 12, 11, 10);
            says(10, 0, MIN, MAX - 1, 20, 10);
            says(20, 1, MAX / 2, MIN, 30, 11, 10);
            says(40, 0, 1 << 30, -(1 << 30) - 6, 50, 20, 10);
            says(50, 1, MAX, -2, 60, 30, 11, 10);
            // The least int by -1 is itself.
            says(0, 3, MIN, MIN, 13);
        });
        sentence("m as told, k is 1", () -> {
            says(0, 0, 5, 6, 10);
            says(9, 0, 5, 6, 10);
            says(0, 2, 5, 12, 12, 11, 10);
            says(9, 2, 5, 3, 12, 11, 10);
            says(9, 3, 17, 2, 13);
        });
        sentence("10 drops: x + k.", () -> says(3, 0, 7, 8, 10));
        sentence("11 gives: drops(x) * 2.", () -> says(3, 1, 7, 16, 11, 10));
        sentence("12 keeps: gives(x) - m.", () -> says(3, 2, 7, 13, 12, 11, 10));
        sentence("13 parts: x by (m - k), cut", () -> {
            says(3, 3, 7, 3, 13);
            says(3, 3, -7, -3, 13);
            says(0, 3, 7, -7, 13);
            says(2, 3, 7, 7, 13);
            says(9, 3, 7, 0, 13);
        });
        sentence("20 drops: super.drops(x) - 3.", () -> says(13, 0, 7, 5, 20, 10));
        sentence("21 parts: super.parts(x) + gives(1).", () -> {
            says(13, 3, 7, 1, 21, 13, 11, 20, 10);
            says(43, 3, 7, -3, 21, 13, 11, 50, 20, 10);
            says(63, 3, 7, 10, 21, 13, 71, 11, 70);
        });
        sentence("30 gives: 0 - super.gives(x).", () -> says(23, 1, 7, -16, 30, 11, 10));
        sentence("40 keeps: super.keeps(x / 2).", () -> {
            says(33, 2, 7, 5, 40, 12, 11, 10);
            says(33, 2, -7, -7, 40, 12, 11, 10);
            says(33, 2, -1, -1, 40, 12, 11, 10);
        });
        sentence("50 drops: super.drops(x) * 3.", () -> says(43, 0, 7, 15, 50, 20, 10));
        sentence("51 keeps: super.keeps(x) ^ k.", () -> {
            says(43, 2, 7, 26, 51, 12, 11, 50, 20, 10);
            says(42, 2, 7, 29, 51, 12, 11, 50, 20, 10);
        });
        sentence("60 gives: super.gives(x + 1).", () -> says(53, 1, 7, -18, 60, 30, 11, 10));
        sentence("70 drops: 2.", () -> {
            says(63, 0, 7, 2, 70);
            says(63, 0, MIN, 2, 70);
        });
        sentence("71 gives: super.gives(x) + m.", () -> says(63, 1, 7, 7, 71, 11, 70));
    }

    private static void voices() {
        sentence("(PARTED if that is 0; that is all that voice() answers then)", () -> {
            for (int kind = 0; kind < 7; kind++) {
                LastInBox x = box(10 * kind + 1);
                due(x.voice(3, 7), PARTED);
                due(x.voice(3, 0), PARTED);
                due(x.voice(3, MIN), PARTED);
                due(x.told(6), 3);
                // The other VOICES don't part.
                for (int voice = 0; voice < 3; voice++) {
                    due(x.voice(voice, 7) < -1000000000 ? 1 : 0, 0);
                }
                x.box(10 * kind + 2);
                due(x.voice(3, 7) == PARTED ? 1 : 0, 0);
                x.box(10 * kind);
                due(x.voice(3, 7) == PARTED ? 1 : 0, 0);
                due(x.told(6), 3);
            }
        });
        sentence("drops(..) is the BODY of its KIND, or of the next KIND above that has one", () -> {
            // FIRST, GREAT and ROUND have no drops of their own, LAST no gives, KEEP no gives and parts.
            says(23, 0, 7, 8, 10);
            says(33, 0, 7, 8, 10);
            says(53, 0, 7, 8, 10);
            says(13, 1, 7, 10, 11, 20, 10);
            says(13, 2, 7, 7, 12, 11, 20, 10);
            says(23, 2, 7, -19, 12, 30, 11, 10);
            says(33, 1, 7, 16, 11, 10);
            says(43, 1, 7, 30, 11, 50, 20, 10);
            says(53, 2, 7, -21, 12, 60, 30, 11, 10);
            says(63, 2, 7, 4, 12, 71, 11, 70);
            says(23, 3, 7, 3, 13);
            says(33, 3, 7, 3, 13);
            says(53, 3, 7, 3, 13);
        });
        sentence("super.drops(..) that from the KIND above the BODY's on", () -> {
            // A KEEP box in the BODY 20 of a LAST goes on above the LAST, not above the KEEP.
            says(43, 0, 7, 15, 50, 20, 10);
            says(43, 3, 7, -3, 21, 13, 11, 50, 20, 10);
            // 71 stands under LAST, which has no gives: that of a BOX.
            says(60, 1, 7, 4, 71, 11, 70);
        });
        sentence("THE TRACE: the numbers of BODIES of the latest voice(), as they began (what stands left is worked out first)", () -> {
            LastInBox x = box(13);
            traceIs(x);
            x.voice(3, 7);
            traceIs(x, 21, 13, 11, 20, 10);
            x.voice(0, 7);
            traceIs(x, 20, 10);
            // A voice() that is none leaves it; one that is PARTED has the BODIES that began.
            due(x.voice(4, 7), BEYOND);
            traceIs(x, 20, 10);
            x.box(11);
            due(x.voice(3, 7), PARTED);
            traceIs(x, 21, 13);
            // THE BOX may become another one: THE TRACE stays.
            x.box(0);
            traceIs(x, 21, 13);
        });
        sentence("A VOICE of THE BOX. BEYOND. PARTED.", () -> {
            LastInBox x = box(1);
            due(x.voice(-1, 0), BEYOND);
            due(x.voice(4, 0), BEYOND);
            due(x.voice(MIN, 0), BEYOND);
            due(x.voice(MAX, 0), BEYOND);
            due(x.voice(3, 0), PARTED);
            due(x.voice(2, 0), 1);
            due(x.told(1), 4);
            due(x.told(6), 1);
        });
        sentence("THE TRACE's i-th. NONE: there is none such.", () -> {
            LastInBox x = box(40);
            due(x.body(0), NONE);
            due(x.count(7), 0);
            x.voice(2, 7);
            due(x.count(7), 6);
            due(x.body(0), 51);
            due(x.body(5), 10);
            due(x.body(6), NONE);
            due(x.body(-1), NONE);
            due(x.body(30), NONE);
            due(x.body(MIN), NONE);
            due(x.body(MAX), NONE);
            // Where a longer one was ahead, none such is left.
            x.voice(0, 7);
            due(x.body(2), 10);
            due(x.body(3), NONE);
        });
    }

    private static void sheets() {
        sentence("SHEETS 0 .. 3 are rows of 8, 16, 32 bits, at most 24 numbers, or missing (as at first).", () -> {
            LastInBox x = new LastInBox();
            for (int sheet = 0; sheet < 4; sheet++) {
                due(x.put(sheet, 0, 0), NONE);
                due(x.sheet(sheet, 8, 24), 1);
                due(x.put(sheet, 23, 0), 1);
                due(x.put(sheet, 24, 0), BEYOND);
                due(x.sheet(sheet, 16, 25), BEYOND);
            }
            due(x.sheet(4, 8, 1), BEYOND);
            due(x.sheet(-1, 8, 1), BEYOND);
        });
        sentence("A SHEET has n numbers, all 0, of so many bits (8, 16, 32; 0: it is missing, n doesn't matter): 1. BEYOND.", () -> {
            LastInBox x = new LastInBox();
            row(x, 0, 8, 3, 4, 5);
            due(x.sheet(0, 8, 2), 1);
            due(x.lays(0), 2);
            heapIs(x, 0, 0);
            x.empty();
            due(x.sheet(0, 32, 3), 1);
            due(x.lays(0), 3);
            heapIs(x, 0, 0, 0);
            due(x.sheet(0, 16, 0), 1);
            due(x.lays(0), 0);
            due(x.put(0, 0, 0), BEYOND);
            for (int bits : new int[] {-8, -1, 1, 7, 9, 15, 17, 24, 31, 33, 64, MIN, MAX}) {
                due(x.sheet(0, bits, 1), BEYOND);
            }
            due(x.put(0, 0, 0), BEYOND);
            due(x.sheet(0, 0, -1), 1);
            due(x.put(0, 0, 0), NONE);
            due(x.sheet(0, 0, 25), 1);
            due(x.sheet(1, 0, MIN), 1);
            due(x.put(1, 0, 0), NONE);
            // It holds 24 numbers once more.
            due(x.sheet(0, 8, 24), 1);
            due(x.put(0, 23, 0), 1);
        });
        sentence("STATE: n is below 0 (ahead of BEYOND of n).", () -> {
            LastInBox x = new LastInBox();
            due(x.sheet(0, 8, -1), STATE);
            due(x.sheet(0, 16, MIN), STATE);
            due(x.sheet(0, 32, 25), BEYOND);
            due(x.sheet(0, 32, MAX), BEYOND);
            due(x.sheet(4, 8, -1), BEYOND);
            due(x.sheet(0, 9, -1), BEYOND);
            due(x.sheet(0, 8, 0), 1);
            due(x.sheet(0, 8, 24), 1);
        });
    }

    private static void puts() {
        sentence("Number i of a SHEET becomes v (its lowest bits): 1.", () -> {
            LastInBox x = new LastInBox();
            row(x, 0, 8, 256 + 5, -256 + 4, 0x7f03, MIN + 2);
            due(x.lays(0), 4);
            heapIs(x, 20, 30, 40, 50);
            x.empty();
            row(x, 1, 16, 65536 + 5, -65536 + 4, 256 + 3);
            due(x.lays(1), 2);
            heapIs(x, 40, 50);
            x.empty();
            row(x, 2, 32, 5, MIN + 5);
            due(x.lays(2), 1);
            row(x, 2, 32, 65536 + 5);
            due(x.lays(2), 0);
            heapIs(x, 50);
        });
        sentence("BEYOND: no such SHEET. NONE: it is missing. BEYOND: no such number.", () -> {
            LastInBox x = new LastInBox();
            due(x.put(-1, 0, 0), BEYOND);
            due(x.put(4, 0, 0), BEYOND);
            due(x.put(0, 0, 0), NONE);
            due(x.put(0, -1, 0), NONE);
            due(x.put(0, 24, 0), NONE);
            x.sheet(0, 8, 2);
            due(x.put(0, -1, 0), BEYOND);
            due(x.put(0, 2, 0), BEYOND);
            due(x.put(0, MIN, 0), BEYOND);
            due(x.put(0, MAX, 0), BEYOND);
            due(x.put(0, 0, 0), 1);
            due(x.put(0, 1, 0), 1);
            x.sheet(0, 8, 0);
            due(x.put(0, 0, 0), BEYOND);
            due(x.told(1), 7);
            due(x.told(2), 3);
        });
    }

    /** SHEET 0: 0 1 2 3 4, SHEET 1: 5 5 5. */
    private static LastInBox twoRows() {
        LastInBox x = new LastInBox();
        row(x, 0, 8, 0, 1, 2, 3, 4);
        row(x, 1, 8, 5, 5, 5);
        return x;
    }

    private static void sheetIs(LastInBox x, int sheet, int... numbers) {
        x.empty();
        due(x.lays(sheet), numbers.length);
        for (int i = 0; i < numbers.length; i++) {
            due(x.coin(numbers.length - 1 - i), 10 * numbers[i]);
        }
    }

    private static void moves() {
        sentence("n numbers of a SHEET, from number i on, come to another one (or the same), from its number j on, as they all were: n.",
            () -> {
                LastInBox x = twoRows();
                due(x.move(0, 2, 1, 1, 2), 2);
                sheetIs(x, 1, 5, 2, 3);
                sheetIs(x, 0, 0, 1, 2, 3, 4);
                due(x.move(0, 0, 0, 1, 4), 4);
                sheetIs(x, 0, 0, 0, 1, 2, 3);
                due(x.move(0, 1, 0, 0, 4), 4);
                sheetIs(x, 0, 0, 1, 2, 3, 3);
                due(x.move(0, 0, 0, 0, 5), 5);
                sheetIs(x, 0, 0, 1, 2, 3, 3);
                due(x.move(0, 1, 1, 0, 3), 3);
                sheetIs(x, 1, 1, 2, 3);
                // Whole rows of 24.
                x.sheet(2, 32, 24);
                x.sheet(3, 32, 24);
                x.put(2, 0, 4);
                x.put(2, 23, 5);
                due(x.move(2, 0, 3, 0, 24), 24);
                x.empty();
                due(x.lays(3), 24);
                due(x.coin(0), 50);
                due(x.coin(23), 40);
            });
        sentence("BEYOND: no such SHEET. NONE: one is missing. KIND: they are of unlike bits.", () -> {
            LastInBox x = twoRows();
            row(x, 2, 16, 5, 5);
            due(x.move(-1, 0, 0, 0, 1), BEYOND);
            due(x.move(4, 0, 0, 0, 1), BEYOND);
            due(x.move(0, 0, -1, 0, 1), BEYOND);
            due(x.move(0, 0, 4, 0, 1), BEYOND);
            due(x.move(3, 0, 4, 0, 1), BEYOND);
            due(x.move(3, 0, 0, 0, 1), NONE);
            due(x.move(0, 0, 3, 0, 1), NONE);
            due(x.move(3, 0, 3, 0, -1), NONE);
            due(x.move(0, 0, 2, 0, 1), KIND);
            due(x.move(2, 0, 0, 0, 0), KIND);
            due(x.move(2, -1, 0, -1, -1), KIND);
            sheetIs(x, 0, 0, 1, 2, 3, 4);
            sheetIs(x, 1, 5, 5, 5);
            sheetIs(x, 2, 5, 5);
        });
        sentence("BEYOND: n, i, or j is below 0, or they don't stand there.", () -> {
            LastInBox x = twoRows();
            due(x.move(0, 0, 1, 0, -1), BEYOND);
            due(x.move(0, -1, 1, 0, 1), BEYOND);
            due(x.move(0, 0, 1, -1, 1), BEYOND);
            due(x.move(0, -1, 1, 0, 0), BEYOND);
            due(x.move(0, 0, 1, 0, 4), BEYOND);
            due(x.move(0, 0, 1, 1, 3), BEYOND);
            due(x.move(0, 3, 1, 0, 3), BEYOND);
            due(x.move(0, 5, 1, 0, 1), BEYOND);
            due(x.move(0, 6, 1, 0, 0), BEYOND);
            due(x.move(0, 0, 1, 4, 0), BEYOND);
            due(x.move(0, MAX, 1, 0, 1), BEYOND);
            due(x.move(0, 0, 1, MAX, 1), BEYOND);
            due(x.move(0, MAX, 1, MAX, MAX), BEYOND);
            due(x.move(0, 0, 1, 0, MAX), BEYOND);
            due(x.move(0, MIN, 1, MIN, MIN), BEYOND);
            // None of them stand anywhere from the first place to behind the last.
            due(x.move(0, 0, 1, 0, 0), 0);
            due(x.move(0, 5, 1, 3, 0), 0);
            sheetIs(x, 1, 5, 5, 5);
            due(x.move(0, 2, 1, 0, 3), 3);
            sheetIs(x, 1, 2, 3, 4);
        });
        sentence("how many came, up to the first that lay() would refuse (no ERROR then). BEYOND. NONE.", () -> {
            LastInBox x = new LastInBox();
            due(x.lays(0), NONE);
            due(x.lays(-1), BEYOND);
            due(x.lays(4), BEYOND);
            row(x, 0, 8, 5, 0, 6, 1);
            due(x.lays(0), 2);
            heapIs(x, 0, 50);
            row(x, 0, 8, -1, 1);
            due(x.lays(0), 0);
            row(x, 0, 8);
            due(x.lays(0), 0);
            // 22 lie there, and two more have room.
            lays(x, 20, 0);
            row(x, 0, 8, 1, 2, 3);
            due(x.lays(0), 2);
            due(x.count(0), 24);
            due(x.coin(0), 20);
            due(x.lays(0), 0);
            due(x.told(4), 0);
            due(x.told(1), 2);
            x.empty();
            x.sheet(0, 8, 24);
            due(x.lays(0), 24);
        });
        sentence("Numbers of a SHEET are SORTS of coins laid on one behind the other (not MARKED)", () -> {
            LastInBox x = box(10, 13);
            row(x, 0, 16, 5, 4);
            due(x.lays(0), 2);
            heapIs(x, 40, 50, 31);
            due(x.count(3), 0);
        });
    }

    private static void images() {
        sentence("(but SHEETS, THE TRACE, what told() tells, and how often this was done)", () -> {
            LastInBox x = new LastInBox();
            row(x, 0, 8, 1);
            x.voice(0, 0);
            due(x.image(), 1);
            row(x, 0, 16, 2, 3);
            x.box(0);
            x.voice(1, 0);
            x.lay(9, 0);
            due(x.image(), 2);
            x.lay(9, 0);
            due(x.restore(), 0);
            due(x.lays(0), 2);
            due(x.body(0), 11);
            due(x.told(1), 2);
            due(x.image(), 3);
        });
        sentence("is kept as an IMAGE, in place of one ahead: how often that was done", () -> {
            LastInBox x = box(10, 1);
            due(x.image(), 1);
            x.lay(2, 0);
            due(x.image(), 2);
            x.lay(3, 0);
            due(x.restore(), 2);
            heapIs(x, 20, 10);
        });
        sentence("All is as the IMAGE has it, which stays: how many coins lie in THE HEAP.", () -> {
            LastInBox x = box(59, 11, 2);
            x.worth(5, 49);
            x.ticket(4);
            person(x, 3);
            person(x, 2, 2);
            due(x.go(0, 3), 2);
            told(x, 0, "k<1");
            told(x, 1, "s=2");
            tape(x, "w");
            x.tell(3);
            x.seed(77);
            due(x.image(), 1);
            for (int twice = 0; twice < 2; twice++) {
                x.empty();
                lays(x, 24, 0);
                x.worth(5, 1);
                x.ticket(0);
                x.box(60);
                x.draws(9);
                x.person();
                x.give(0, 1, 9);
                x.box(10);
                x.empty();
                x.lay(0, 1);
                x.give(0, 3, 1);
                x.go(0, 3);
                due(x.personIs(0, 7), 2);
                x.text(0);
                told(x, 0, "1");
                told(x, 1, "s=3");
                tape(x, "+++");
                x.check();
                x.tell(1);
                x.tell(2);
                due(x.restore(), 2);
                heapIs(x, 30, 20);
                int[] counts = {2, 15, 2, 1, 4, 1, 1, 0, 77, 1, 2, 5, 10, 20, 49, 5, 9};
                for (int i = 0; i < counts.length; i++) {
                    due(x.count(i), counts[i]);
                }
                due(x.personIs(0, 1), 1);
                due(x.personIs(0, 7), 1);
                due(x.personIs(1, 2), 2);
            }
            // TEXTS, THE TAPE and the number that waits are what they were.
            x.box(60);
            due(x.change(5, 1), 1);
            x.give(0, 3, 1);
            x.give(0, 2, 1);
            due(x.feed('w', 1), 2);
            due(x.text(0), -11);
            x.tell(2);
            due(x.check(), 0);
            x.box(0);
            due(x.dear(0), 3);
        });
        sentence("how many coins lie in THE HEAP. NONE: there is none.", () -> {
            LastInBox x = box(10, 1);
            due(x.restore(), NONE);
            heapIs(x, 10);
            x.image();
            x.empty();
            due(x.restore(), 1);
        });
    }

    private static void numbersThatWait() {
        sentence("One more number waits: how many. FULL: 24 wait.", () -> {
            LastInBox x = new LastInBox();
            for (int i = 1; i <= 24; i++) {
                due(x.tell(MIN + i), i);
            }
            due(x.tell(0), FULL);
            due(x.count(6), 24);
            x.check();
            due(x.tell(0), 1);
        });
        sentence("The numbers that wait (none do then) are SORTS of THE HEAP, the latest first: 0", () -> {
            LastInBox x = new LastInBox();
            due(x.check(), 0);
            x = box(10, 5, 10, 2);
            x.tell(2);
            x.tell(0);
            x.tell(5);
            due(x.count(6), 3);
            due(x.check(), 0);
            due(x.count(6), 0);
            // What waited ahead is gone.
            lays(x, 2, 4);
            for (int i = 1; i <= 5; i++) {
                x.tell(i);
            }
            due(x.check(), 1);
            x.empty();
            due(x.check(), 0);
            x.lay(3, 0);
            x.tell(3);
            due(x.check(), 0);
            // All 24.
            x = box(10, 3);
            lays(x, 23, 4);
            for (int i = 0; i < 24; i++) {
                x.tell(i < 23 ? 4 : 3);
            }
            due(x.check(), 0);
        });
        sentence("else 1 and the place of the first that isn't so (one that lacks, or is too many, too)", () -> {
            LastInBox x = box(10, 5, 0, 2);
            due(x.check(), 1);
            x.tell(2);
            due(x.check(), 2);
            x.tell(2);
            x.tell(0);
            due(x.check(), 3);
            due(x.count(6), 0);
            for (int sort : new int[] {2, 0, 5, 0}) {
                x.tell(sort);
            }
            due(x.check(), 4);
            for (int sort : new int[] {5, 0, 2}) {
                x.tell(sort);
            }
            due(x.check(), 1);
            for (int sort : new int[] {2, 0, 6, 9, 9}) {
                x.tell(sort);
            }
            due(x.check(), 3);
            x.empty();
            x.tell(0);
            due(x.check(), 1);
            // The 24th, of numbers and of coins.
            lays(x, 24, 0);
            for (int i = 0; i < 24; i++) {
                x.tell(i < 23 ? 0 : -1);
            }
            due(x.check(), 24);
            for (int i = 0; i < 23; i++) {
                x.tell(0);
            }
            due(x.check(), 24);
        });
    }

    private static void counts() {
        sentence("9 .. 14 WORTH of SORT 0 .. 5, 15 the KIND, 16 m. BEYOND.", () -> {
            LastInBox x = box(69);
            for (int sort = 0; sort < 6; sort++) {
                x.worth(sort, 90 + sort);
                due(x.count(9 + sort), 90 + sort);
            }
            due(x.count(15), 6);
            due(x.count(16), 9);
            due(x.count(17), BEYOND);
            due(x.count(-1), BEYOND);
            due(x.count(MIN), BEYOND);
            due(x.count(MAX), BEYOND);
        });
        sentence("0 coins of THE HEAP, 1 what they are worth, 2 PEOPLE, 3 TAKEN, 4 THE TICKET, 5 bytes of THE TAPE", () -> {
            LastInBox x = box(0);
            lays(x, 24, 5);
            person(x, 2, 3);
            person(x);
            x.go(0, 3);
            x.stranger(4);
            x.stranger(4);
            tape(x, "w+w");
            x.ticket(99);
            int[] counts = {24, 24 * 50, 2, 3, 99, 3};
            for (int i = 0; i < counts.length; i++) {
                due(x.count(i), counts[i]);
            }
        });
        sentence("6 numbers that wait, 7 BODIES in THE TRACE, 8 z (any number)", () -> {
            LastInBox x = box(40);
            x.tell(0);
            x.tell(0);
            x.voice(3, 0);
            due(x.count(6), 2);
            due(x.count(7), 6);
            for (int z : new int[] {MIN, -1000000001, -1000000006, 0, MAX}) {
                x.seed(z);
                due(x.count(8), z);
            }
            due(x.told(1), 0);
            due(x.told(6), 0);
        });
        sentence("How many acts have answered an ERROR LOW - k (k 1 .. 6)", () -> {
            LastInBox x = box(1);
            for (int many = 1; many <= 3; many++) {
                x.lay(6, 0);
                x.body(9);
                x.body(-1);
                x.body(30);
                x.stranger(0);
                while (x.person() >= 0) {
                    due(x.told(4), 0);
                }
                x.as(1);
                x.voice(3, 0);
                x.voice(3, 0);
                due(x.told(1), many);
                due(x.told(2), 3 * many);
                due(x.told(3), many);
                due(x.told(4), many);
                due(x.told(5), many);
                due(x.told(6), 2 * many);
            }
            // In longs, too.
            x.wrong(0, 0);
            due(x.told(1), 4);
        });
        sentence("An object is used for at most 512 calls after it has been made", () -> {
            // The 512th call still knows of all that were ahead.
            LastInBox x = new LastInBox();
            LastInBox y = new LastInBox();
            LastInBox z = new LastInBox();
            for (int i = 1; i <= 511; i++) {
                x.lay(6, 0);
                y.stranger(5);
                due(z.image(), i);
            }
            due(x.told(1), 511);
            due(y.count(3), 511);
            due(z.image(), 512);
        });
        sentence("BEYOND: another k (counted, too).", () -> {
            LastInBox x = new LastInBox();
            due(x.told(0), BEYOND);
            due(x.told(7), BEYOND);
            due(x.told(-1), BEYOND);
            due(x.told(MIN), BEYOND);
            due(x.told(MAX), BEYOND);
            due(x.told(1), 5);
            due(x.told(1), 5);
        });
    }

    public static void main(String[] args) {
        bodies();
        voices();
        sheets();
        puts();
        moves();
        images();
        numbersThatWait();
        counts();
        ends("VoiceSentences");
    }
}
