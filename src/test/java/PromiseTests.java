/** Each promise with answers worked out by hand from the document: ordinary inputs, edges, wrong inputs. */
public final class PromiseTests extends Checks {
    private static void aNewObject() {
        of(1);
        LastInBox x = new LastInBox();
        long[] first = {0, 0, 0, 0, 3, 0, 0, 0, 1, 1, 2, 5, 10, 20, 50, 1, 0};
        for (int i = 0; i < first.length; i++) {
            due(x.count(i), first[i]);
        }
        for (int k = 1; k <= 6; k++) {
            due(x.told(k), 0);
        }
        due(x.personIs(0, 0), BEYOND);
        due(x.restore(), NONE);
        due(x.lays(0), NONE);
        due(x.body(0), NONE);
        due(x.untell(0), 0);
        due(x.untell(1), 0);
    }

    private static void worthAndTicket() {
        of(2);
        LastInBox x = new LastInBox();
        due(x.worth(0, 99), 1);
        due(x.worth(0, 1), 99);
        due(x.worth(5, 7), 50);
        due(x.count(14), 7);
        due(x.worth(-1, 5), BEYOND);
        due(x.worth(6, 5), BEYOND);
        due(x.worth(1, 0), BEYOND);
        due(x.worth(1, 100), BEYOND);
        due(x.count(10), 2);
        due(x.told(1), 4);
        of(3);
        due(x.ticket(0), 3);
        due(x.ticket(99), 0);
        due(x.ticket(100), BEYOND);
        due(x.ticket(-1), BEYOND);
        due(x.count(4), 99);
    }

    private static void kinds() {
        of(4);
        LastInBox x = new LastInBox();
        due(x.box(0), 10);
        due(x.box(69), 0);
        due(x.count(15), 6);
        due(x.count(16), 9);
        due(x.box(70), BEYOND);
        due(x.box(-1), BEYOND);
        due(x.box(10), 69);
        of(5);
        int[] under = {0b0000001, 0b0000011, 0b0000101, 0b0001001, 0b0010011, 0b0100101, 0b1000011};
        for (int kind = 0; kind < 7; kind++) {
            LastInBox y = box(10 * kind, 0, 1);
            for (int as = 0; as < 7; as++) {
                due(y.as(as), (under[kind] >> as & 1) == 1 ? 2 : KIND);
            }
            due(y.as(-1), BEYOND);
            due(y.as(7), BEYOND);
        }
    }

    private static void heap() {
        of(6);
        LastInBox x = new LastInBox();
        due(x.lay(6, 0), BEYOND);
        due(x.lay(-1, 0), BEYOND);
        due(x.lay(0, 2), BEYOND);
        due(x.lay(0, -1), BEYOND);
        for (int i = 1; i <= 24; i++) {
            due(x.lay(i % 6, i % 2), i);
        }
        due(x.lay(0, 0), FULL);
        due(x.lay(6, 0), BEYOND);
        due(x.count(0), 24);
        due(x.count(3), 0);
        of(7);
        due(x.empty(), 4 * (1 + 2 + 5 + 10 + 20 + 50));
        due(x.empty(), 0);
        due(x.count(0), 0);
        due(x.lay(3, 1), 1);
        of(8);
        due(x.lay(5, 0), 2);
        due(x.coin(0), 50);
        due(x.coin(1), 31);
        due(x.coin(2), BEYOND);
        due(x.coin(-1), BEYOND);
    }

    private static void people() {
        of(9);
        LastInBox x = new LastInBox();
        for (int i = 0; i < 6; i++) {
            due(x.person(), i);
        }
        due(x.person(), FULL);
        due(x.count(2), 6);
        due(x.told(4), 1);
        of(10);
        for (int what = 0; what < 8; what++) {
            due(x.personIs(5, what), 0);
        }
        x.give(5, 0, 3);
        x.give(5, 5, 99);
        due(x.personIs(5, 0), 3);
        due(x.personIs(5, 5), 99);
        due(x.personIs(5, 6), 3 + 99 * 50);
        due(x.personIs(4, 6), 0);
        due(x.personIs(5, 8), BEYOND);
        due(x.personIs(5, -1), BEYOND);
        due(x.personIs(6, 0), BEYOND);
        due(x.personIs(-1, 0), BEYOND);
        of(11);
        due(x.give(5, 5, 0), 99);
        due(x.give(5, 5, 1), 0);
        due(x.give(5, 5, 100), BEYOND);
        due(x.give(5, 5, -1), BEYOND);
        due(x.give(5, 6, 1), BEYOND);
        due(x.give(5, -1, 1), BEYOND);
        due(x.give(6, 0, 1), BEYOND);
        due(x.personIs(5, 5), 1);
    }

    private static void tapes() {
        of(12);
        LastInBox x = new LastInBox();
        due(x.feed(0x4142434431323334L, 0), BEYOND);
        due(x.feed(0L, 9), BEYOND);
        due(x.feed(0x7777777777777777L, 8), 8);
        due(x.feed(-1L, 1), 9);
        for (int i = 0; i < 6; i++) {
            due(x.feed(0L, 8), 17 + 8 * i);
        }
        due(x.feed(0L, 4), FULL);
        due(x.feed(0L, 3), 60);
        due(x.feed(0L, 1), FULL);
        due(x.feed(0L, 9), BEYOND);
        due(x.count(5), 60);
        x = new LastInBox();
        // The lowest byte first, and nothing of those above the n-th.
        x.feed(0x21_2B_77L, 2);
        x.feed(0x31L, 1);
        due(x.text(0), 1);
        of(13);
        due(x.count(5), 0);
        tape(x, "w");
        due(x.text(2), BEYOND);
        due(x.text(-1), BEYOND);
        due(x.count(5), 1);
        due(x.text(0), 1);
        due(x.text(0), -10);
    }

    private static void faults() {
        of(13);
        LastInBox x = new LastInBox();
        String[] whole = {"w", "l+k*m", "0000", "9999", "!!!!!w", "(((((w)))))", "!(!(!w))", "w<l&k>m|w=1", "(w<l)<k",
            "w-l-k/m%2", "!w+!w+!w+!w+!w+!w"};
        for (String text : whole) {
            due(told(x, 0, text), 1);
        }
        Object[][] faulty = {
            {"", 0}, {"x", 0}, {"s", 0}, {"w+", 2}, {"w w", 1}, {" w", 0}, {"12345", 4}, {"w1", 1}, {"1w", 1}, {"w<l<k", 3},
            {"w=l&k<m>1", 7}, {"(w", 2}, {"w)", 1}, {"()", 1}, {"((((((w))))))", 5}, {"!!!!!!w", 5}, {"!(!(!(w)))", 5},
            {"w||l", 2}, {"w!", 1}, {"!", 1}, {"-1", 0}, {"(w)(", 3}, {"(w)1", 3}, {"w<", 2}, {"w\u00ff", 1}, {"w\0", 1},
            {"(1<2<3)", 4}, {"W", 0},
        };
        for (Object[] one : faulty) {
            due(told(x, 0, (String) one[0]), -10 - (Integer) one[1]);
            due(x.count(5), 0);
        }
        due(told(x, 1, "s+w*t"), 1);
        due(told(x, 1, "l"), -10);
        due(told(x, 1, "s+k"), -12);
        String sixty = "w+1".concat("+w-1".repeat(14)).concat("+");
        due(told(x, 0, sixty), -70);
        due(told(x, 0, sixty.substring(0, 59)), 1);
        // The one ahead stays behind a FAULT: TOLD gives all by "1", nothing by "0".
        x = box(60, 0, 5);
        due(told(x, 0, "1"), 1);
        due(told(x, 0, "0+"), -12);
        due(x.change(3, 0), 50);
        due(told(x, 0, "0"), 1);
        due(x.change(3, 0), 0);
        due(x.told(1), 0);
        of(14);
        due(x.untell(0), 1);
        due(x.untell(0), 0);
        due(x.change(3, 0), 1);
        due(x.untell(2), BEYOND);
        due(x.untell(-1), BEYOND);
    }

    /** Each value by way of GIVES: one coin of WORTH 5 (LEFT 7, k 0, m 2) is given if text=value. */
    private static void values() {
        of(13);
        Object[][] rows = {
            {"w", 5}, {"l", 7}, {"k", 0}, {"m", 2}, {"w-l-m", -4}, {"w/m", 2}, {"(0-w)/m", -2}, {"(0-w)%m", -1}, {"w/k", 0},
            {"w%k", 0}, {"w+l*m", 19}, {"(w+l)*m", 24}, {"!w", 0}, {"!k", 1}, {"!!w", 1}, {"w&l", 1}, {"w&k", 0}, {"k|m", 1},
            {"k|k", 0}, {"w<l", 1}, {"l<w", 0}, {"w<w", 0}, {"w>l", 0}, {"l>w", 1}, {"w>w", 0}, {"w=l", 0}, {"w=5", 1}, {"k|w&k", 0}, {"1|w&k", 1}, {"(1|w)&k", 0}, {"!k+1", 2},
            {"w*!k", 5}, {"7%4*3", 9}, {"100/7/2", 7}, {"0012", 12}, {"1+1=2&3", 1},
            {"9999*9999*9999", (int) (9999L * 9999L * 9999L)},
            {"9999*9999*9999*9999/9999", (int) (9999L * 9999L * 9999L * 9999L) / 9999},
        };
        for (Object[] one : rows) {
            isValue((String) one[0], (Integer) one[1]);
        }
        LastInBox x = box(62, 0, 0, 0, 0);
        due(told(x, 0, "k<2"), 1);
        due(x.change(3, 1), 2);
        due(told(x, 0, "l>5"), 1);
        due(x.change(3, 1), 2);
    }

    private static void changes() {
        of(19);
        // From the first to the latest: 20, 1 (marked), 5, 1, 2.
        int[] heap = {4, 10, 2, 0, 1};
        gives(box(0, heap), 3, 0);
        gives(box(10, heap), 3, 0, 1, 0, 2);
        gives(box(20, heap), 3, 0, 4);
        gives(box(30, heap), 3, 1, 2, 1);
        gives(box(40, heap), 3, 0, 1, 0);
        gives(box(50, heap), 3, 1, 0, 2, 0);
        gives(box(60, heap), 3, 0, 1, 0, 0);
        LastInBox x = box(10, heap);
        due(x.change(3, 0), 8);
        due(x.change(3, 3), 0);
        due(x.change(5, 3), 1);
        due(x.change(5, 0), 29);
        heapIs(x, 10, 0, 20, 1, 40);
        due(x.count(3), 0);
        due(x.change(2, 2), 1);
        due(x.change(-1, 0), BEYOND);
        due(x.change(6, 0), BEYOND);
        due(x.change(3, -1), BEYOND);
        due(x.change(0, -1), BEYOND);
        due(x.change(0, 4), STATE);
        due(x.change(0, 999), STATE);
        due(x.change(3, 28), NONE);
        due(x.change(3, Integer.MAX_VALUE), NONE);
        x.ticket(10);
        due(x.change(3, 0), 0);
        due(x.change(3, 2), 1);
        due(x.change(3, 4), NONE);
        x.ticket(11);
        due(x.change(3, 0), STATE);
        // A BOX looks at none: it is RIGHT just where nothing is DUE.
        x = box(0, heap);
        x.ticket(10);
        gives(x, 3, 1);
        // GREAT: of like WORTHS the latest first, though the SORTS are others; what doesn't fit is passed over.
        x = box(30, 1, 0, 2, 0, 1);
        x.worth(0, 2);
        gives(x, 3, 1, 2, 1);
        x.worth(3, 9);
        x.worth(2, 7);
        gives(x, 3, 1, 1, 0, 0);
        // GREAT with a gap: 5 doesn't fit into what is left behind 5, but 1 does.
        gives(box(30, 0, 2, 2, 0), 3, 1, 2, 0, 0);
        // KEEP ends ahead of the one that is too much, FIRST and LAST give it.
        gives(box(40, 0, 0, 5, 0), 3, 0, 0);
        gives(box(40, 5), 3, 0);
        gives(box(10, 0, 0, 5, 0), 3, 0, 0, 5);
        gives(box(20, 0, 0, 5, 0), 3, 0, 0, 0, 5);
        gives(box(50, 0, 0, 5, 0), 3, 0, 0, 0, 0);
        // TOLD without a TEXT gives what just fits, down to the last 1, and looks at none if nothing is DUE.
        gives(box(60, 0, 2, 0, 2, 0), 3, 1, 0, 2, 0);
        x = box(60, 0);
        told(x, 0, "1");
        gives(x, 2, 0, 0);
        x.ticket(5);
        gives(x, 2, 1);
        // TOLD looks from the latest one on; MARKED ones are counted.
        x = box(63, 10, 12, 11);
        told(x, 0, "w<m");
        gives(x, 3, 0, 1, 0);
        due(x.change(3, 3), 2);
    }

    private static void goes() {
        of(15);
        LastInBox x = box(10, 0, 12, 1);
        x.person();
        x.person();
        x.give(1, 3, 1);
        due(x.go(1, 3), 7);
        heapIs(x, 30, 0);
        due(x.personIs(1, 3), 0);
        due(x.personIs(1, 2), 1);
        due(x.personIs(1, 1), 1);
        due(x.personIs(1, 7), 1);
        due(x.personIs(0, 7), 0);
        due(x.count(3), 1);
        due(x.go(1, 3), STATE);
        due(x.go(1, 1), STATE);
        due(x.go(1, 6), BEYOND);
        due(x.go(2, 6), BEYOND);
        due(x.go(-1, 0), BEYOND);
        due(x.count(3), 1);
        // What a person got MARKED is as others when it is put in.
        due(x.go(1, 2), 10);
        heapIs(x, 20, 0);
        due(x.personIs(1, 7), 1);
        // More than 99 are lost; the coin leaves the purse ahead of the change.
        x = box(10, 3, 13, 0);
        x.person();
        x.give(0, 3, 99);
        x.give(0, 5, 1);
        due(x.go(0, 5), 21);
        due(x.personIs(0, 3), 99);
        due(x.personIs(0, 0), 1);
        due(x.personIs(0, 7), 1);
        x = box(10, 3, 3);
        x.person();
        x.give(0, 3, 99);
        due(x.go(0, 3), 10);
        due(x.personIs(0, 3), 99);
        // 24 lie there and none comes out: the coin falls through.
        x = box(0);
        for (int i = 0; i < 24; i++) {
            x.lay(0, 0);
        }
        x.person();
        x.give(0, 3, 2);
        due(x.go(0, 3), 0);
        due(x.count(0), 24);
        due(x.coin(0), 0);
        due(x.count(3), 1);
        // 24 lie there, but the change makes room first.
        x.box(10);
        due(x.go(0, 3), 7);
        due(x.count(0), 18);
        due(x.coin(0), 30);
    }

    private static void strangersAndDraws() {
        of(16);
        LastInBox x = box(20, 11, 2, 0);
        due(x.stranger(3), 7);
        heapIs(x, 30, 0);
        due(x.stranger(1), STATE);
        due(x.stranger(6), BEYOND);
        due(x.stranger(-1), BEYOND);
        due(x.count(3), 1);
        x.ticket(2);
        due(x.stranger(1), 0);
        heapIs(x, 10, 30, 0);
        // In the middle of the heap a gap is closed.
        x = box(50, 0, 5, 1, 5, 2);
        due(x.stranger(3), 3);
        heapIs(x, 30, 20, 50, 50);
        of(17);
        x = new LastInBox();
        due(x.draws(0), BEYOND);
        due(x.draws(61), BEYOND);
        due(x.count(8), 1);
        int z = 1;
        int puts = 0;
        for (int i = 0; i < 60; i++) {
            z = z * 1103515245 + 12345;
            puts += (z >>> 8) % 6 >= 2 ? 1 : 0;
        }
        x.box(0);
        due(x.draws(60), puts);
        due(x.count(3), puts);
        due(x.count(8), z);
        due(x.count(0), 24);
        // With a ticket of 10 a BOX is RIGHT for a 10, not so for a 20 or a 50; of the others nothing comes.
        LastInBox y = new LastInBox();
        y.box(0);
        y.ticket(10);
        int notRight = 0;
        z = 1;
        for (int i = 0; i < 60; i++) {
            z = z * 1103515245 + 12345;
            notRight += (z >>> 8) % 6 >= 4 ? 1 : 0;
        }
        due(y.draws(60), notRight);
        of(18);
        due(x.seed(Integer.MIN_VALUE), z);
        due(x.seed(-1000000001), Integer.MIN_VALUE);
        due(x.seed(5), -1000000001);
        due(x.told(1), 2);
        x.ticket(99);
        due(x.draws(1), 0);
        due(x.count(8), 5 * 1103515245 + 12345);
    }

    private static void dears() {
        of(20);
        LastInBox x = box(10, 0, 4, 2);
        x.person();
        due(x.dear(0), NONE);
        x.give(0, 1, 5);
        due(x.dear(0), NONE);
        x.give(0, 2, 1);
        x.give(0, 3, 1);
        x.give(0, 5, 1);
        // 5: gives 5, 0 in all; 10: gives 5 and 20, 15 in all; 50: gives 26, -24 in all.
        due(x.dear(0), 3);
        x.give(0, 3, 0);
        due(x.dear(0), 2);
        due(x.dear(1), BEYOND);
        due(x.dear(-1), BEYOND);
        // Of several the least.
        x = box(0);
        x.person();
        x.give(0, 3, 1);
        x.give(0, 4, 1);
        due(x.dear(0), 3);
        told(x, 1, "0");
        due(x.dear(0), 3);
        told(x, 1, "3=s");
        due(x.dear(0), 4);
        // Held within -999 .. 999: both are alike.
        told(x, 1, "0-996-s");
        due(x.dear(0), 3);
        told(x, 1, "0-995-s");
        due(x.dear(0), 4);
        told(x, 1, "s*9999");
        due(x.dear(0), 3);
        told(x, 1, "1000-s*9999");
        due(x.dear(0), 3);
        told(x, 1, "995+s");
        due(x.dear(0), 3);
        told(x, 1, "990-s");
        due(x.dear(0), 4);
        // TAKEN as it is now: 0 here, 1 behind a GO.
        told(x, 1, "t*s-w*!t");
        due(x.dear(0), 4);
        x.stranger(3);
        due(x.dear(0), 3);
        heapIs(x, 30);
        // Two 1's come for a 5 or a 10: LIKES of both count, less those of the 5 or the 10 alone.
        x = box(10, 0, 0);
        x.person();
        x.give(0, 3, 1);
        x.give(0, 2, 1);
        told(x, 1, "!s*9999+s");
        due(x.dear(0), 2);
        told(x, 1, "!s*9999-s");
        due(x.dear(0), 3);
        // For a 1 nothing comes, it is liked by 5: -5. Two 1's for a 5: 10 - 20, then 10 - 14.
        x.ticket(1);
        x.give(0, 0, 1);
        told(x, 1, "!s*5+(s=2)*20+(s=3)*20");
        due(x.dear(0), 0);
        told(x, 1, "!s*5+(s=2)*14+(s=3)*16");
        due(x.dear(0), 2);
        // 1000 for a 5 is held at 999, as much as for a 10: the least.
        told(x, 1, "!s*9+(s=2)*1000+(s=3)*999");
        x.give(0, 0, 0);
        due(x.dear(0), 2);
    }

    private static void gets() {
        of(21);
        LastInBox x = box(10, 0, 1, 5, 4);
        x.person();
        x.give(0, 3, 2);
        due(x.get(0, 4, 0), NONE);
        due(x.get(0, 4, 4), 1);
        // For a 10 the 20 comes; then for that 20 the 10 that was put in, and the 50 below it.
        due(x.get(0, 5, 1), NONE);
        due(x.get(0, 5, 2), 2);
        due(x.get(0, 5, 4), 2);
        due(x.get(0, 3, 4), NONE);
        due(x.personIs(0, 3), 2);
        heapIs(x, 40, 50, 10, 0);
        due(x.get(0, 6, 1), BEYOND);
        due(x.get(0, -1, 1), BEYOND);
        due(x.get(1, 0, 1), BEYOND);
        due(x.get(0, 0, 5), BEYOND);
        due(x.get(0, 0, -1), BEYOND);
        // 99 of them can't become more.
        x.give(0, 4, 99);
        due(x.get(0, 4, 4), NONE);
        // One 10 for one 10, ever again, is never more; two 5's for a 10 are.
        x = box(10, 3);
        x.person();
        x.give(0, 3, 1);
        due(x.get(0, 3, 4), NONE);
        x = box(10, 2, 2);
        x.person();
        x.give(0, 2, 1);
        x.give(0, 3, 1);
        due(x.get(0, 2, 4), 1);
        // One by one, a FIRST box gives what lies on top of the 50: the fourth GO.
        x = box(20, 4, 4, 4, 5);
        x.person();
        x.give(0, 3, 4);
        due(x.get(0, 5, 3), NONE);
        due(x.get(0, 5, 4), 4);
        x = box(20, 4, 4, 5);
        x.person();
        x.give(0, 3, 3);
        due(x.get(0, 5, 4), 3);
        due(x.get(0, 5, 2), NONE);
        // With coins of SORT 0, for coins of SORT 0.
        x = box(20, 1, 0, 0);
        x.person();
        x.worth(0, 4);
        x.give(0, 0, 1);
        due(x.get(0, 1, 4), 1);
        due(x.get(0, 0, 4), NONE);
        x.give(0, 0, 2);
        due(x.get(0, 0, 4), NONE);
        x.worth(0, 9);
        due(x.get(0, 0, 4), NONE);
        // Never by a coin of a WORTH below THE TICKET.
        x = box(10, 0, 0, 0);
        x.person();
        x.give(0, 1, 9);
        due(x.get(0, 0, 4), NONE);
    }

    private static void queues() {
        of(22);
        // GREAT with a 2 and a 5: the first with 10 gets 7, RIGHT; one with a 5 wants the 2.
        LastInBox x = box(30, 1, 2);
        for (int i = 0; i < 4; i++) {
            x.person();
        }
        x.give(0, 2, 1);
        x.give(1, 3, 1);
        x.give(2, 1, 1);
        x.give(3, 4, 1);
        row(x, 0, 8, 2, 3, 1, 5);
        // 0 first: the 2 goes, 1 gets 5 + nothing. 1 first: 7, then 0 gets nothing: one is RIGHT either way.
        due(x.order(0, -1), 1);
        due(x.order(0, 0), 0);
        due(x.order(0, 1), 1);
        due(x.order(0, 2), NONE);
        due(x.order(0, -2), BEYOND);
        due(x.order(4, 0), BEYOND);
        due(x.order(-1, 0), BEYOND);
        due(x.order(1, -1), NONE);
        due(x.order(1, -2), BEYOND);
        // Each of three has a coin that is the change for the one ahead.
        x = box(10);
        for (int i = 0; i < 3; i++) {
            x.person();
            x.give(i, i, 1);
        }
        x.worth(0, 8);
        x.worth(1, 5);
        x.worth(2, 3);
        row(x, 0, 16, 0, 1, 2);
        // 8 wants a 5 as the latest one, 5 wants a 2, 3 wants nothing: 0 is RIGHT just behind 1, 2 anywhere.
        due(x.order(0, -1), 2);
        due(x.order(0, 0), 1);
        due(x.order(0, 1), 0);
        due(x.order(0, 2), 2);
        due(x.count(0), 0);
        due(x.personIs(0, 0), 1);
        row(x, 0, 16);
        due(x.order(0, -1), 0);
        due(x.order(0, 0), NONE);
        row(x, 0, 32, 256, -1, 2, 0, 0, 0, 0, 0);
        due(x.order(0, -1), 1);
        due(x.order(0, 0), 2);
        due(x.order(0, 1), NONE);
        of(23);
        x = box(10);
        x.person();
        x.person();
        x.give(0, 3, 1);
        x.give(1, 2, 1);
        row(x, 0, 8, 3, 2);
        // LAST: 7 is due first, then 2, but then the 10 that was put in is the latest.
        due(x.dawn(0, 0), NONE);
        x.box(20);
        due(x.dawn(0, 0), 9);
        x.box(30);
        due(x.dawn(0, 0), 9);
        x.lay(2, 0);
        due(x.dawn(0, 0), 4);
        due(x.dawn(0, 1), 2);
        due(x.dawn(0, 2), NONE);
        due(x.dawn(0, 6), BEYOND);
        due(x.dawn(0, -1), BEYOND);
        due(x.dawn(4, 0), BEYOND);
        due(x.dawn(1, 0), NONE);
        due(x.count(0), 1);
        // Nobody stands there: all GOES are RIGHT.
        row(x, 0, 8);
        due(x.dawn(0, 0), 0);
        // 9 are the most: 10 would do.
        x = box(20);
        x.person();
        x.give(0, 3, 1);
        x.ticket(0);
        row(x, 0, 8, 3);
        due(x.dawn(0, 0), NONE);
        due(x.dawn(0, 1), 5);
        x.ticket(1);
        due(x.dawn(0, 0), 9);
        // As far as there is room: none here.
        x = box(20);
        x.person();
        x.give(0, 3, 1);
        row(x, 0, 8, 3);
        for (int i = 0; i < 24; i++) {
            x.lay(5, 0);
        }
        due(x.dawn(0, 0), NONE);
        x = box(10);
        x.person();
        x.give(0, 3, 1);
        row(x, 0, 8, 3);
        for (int i = 0; i < 18; i++) {
            x.lay(5, 0);
        }
        due(x.dawn(0, 0), NONE);
        x.ticket(4);
        due(x.dawn(0, 0), 6);
        x.ticket(10);
        due(x.dawn(0, 0), 0);
    }

    private static void odds() {
        of(24);
        LastInBox x = box(10, 1);
        // Of 5, 10, 20, 50 only the 5 is answered with 2.
        due(x.wrong(1, 0), 3);
        due(x.wrong(1, 1), 4);
        due(x.wrong(2, 0), 1);
        due(x.wrong(2, 1), 1);
        due(x.wrong(0, 0), BEYOND);
        due(x.wrong(5, 0), BEYOND);
        due(x.wrong(1, 2), BEYOND);
        due(x.wrong(1, -1), BEYOND);
        x.ticket(51);
        due(x.wrong(1, 0), STATE);
        due(x.wrong(1, 2), BEYOND);
        x.ticket(50);
        due(x.wrong(4, 0), 0);
        due(x.wrong(4, 1), 1);
        x.ticket(20);
        // 20 is RIGHT (0 is due); 50 wants 30.
        x = box(10);
        x.ticket(20);
        due(x.wrong(1, 0), 1);
        due(x.wrong(1, 1), 2);
        due(x.wrong(4, 0), 15);
        due(x.wrong(4, 1), 16);
        due(x.count(3), 0);
        // Two of six are RIGHT with a ticket of 1 and a 1 in the heap: 1 (nothing is DUE) and 2.
        x = box(40, 0);
        x.ticket(1);
        due(x.wrong(1, 0), 2);
        due(x.wrong(1, 1), 3);
        // All six pay: without a ticket none is RIGHT but the 1, and behind it the 1 again (LAST gives it back).
        x = box(10, 0);
        x.ticket(0);
        due(x.wrong(1, 0), 5);
        due(x.wrong(1, 1), 6);
        due(x.wrong(3, 0), 215);
        due(x.wrong(3, 1), 216);
        x.empty();
        due(x.wrong(1, 0), 1);
        due(x.wrong(4, 1), 1);
        of(25);
        due(box(20, 10).again(5), 1);
        x = box(20, 0, 0, 15, 0);
        due(x.again(2), 2);
        due(x.again(5), 1);
        due(x.again(1), STATE);
        due(x.again(6), BEYOND);
        due(x.again(-1), BEYOND);
        heapIs(x, 0, 51, 0, 0);
        x.ticket(5);
        due(x.again(2), NONE);
        x = box(20, 0, 0);
        due(x.again(5), NONE);
        // Each GO with a 5 takes two 1's, of which 10 are ahead of the MARKED one.
        x = box(20, 0, 0, 0, 0, 0, 0, 0, 0, 0, 0, 10);
        due(x.again(2), 6);
        // In a LAST box it comes at once, or is covered for ever by a coin that is enough.
        x = box(10, 10, 0);
        due(x.again(4), 1);
        due(x.again(2), 1);
        x = box(10, 10, 1);
        due(x.again(2), NONE);
    }

    private static void musts() {
        of(26);
        // First to latest: 2, 5, 2.
        LastInBox x = box(60, 1, 2, 1);
        row(x, 0, 8, 1, 2);
        // LAST 2 5; FIRST 2 5; KEEP 2 5; ROUND 2 5; GREAT 5 2.
        due(x.must(0, 3), 0b110110);
        row(x, 0, 16, 2, 1);
        due(x.must(0, 3), 0b001000);
        row(x, 0, 16, 1, 1);
        due(x.must(0, 3), 0);
        row(x, 0, 16, 2, 2);
        due(x.must(0, 3), 0);
        row(x, 0, 16, 1);
        due(x.must(0, 3), 0);
        row(x, 0, 32);
        due(x.must(0, 3), 0b000001);
        x.ticket(10);
        due(x.must(0, 3), 0b111111);
        row(x, 0, 32, 1, 2, 1);
        due(x.must(0, 3), 0);
        due(x.must(0, 2), STATE);
        due(x.must(1, 2), NONE);
        due(x.must(1, 6), BEYOND);
        due(x.must(0, -1), BEYOND);
        due(x.must(4, 0), BEYOND);
        due(x.count(15), 6);
        of(27);
        x = box(10, 0, 0);
        row(x, 0, 8, 2);
        // 5, 10, 20 and 50 are all answered with both ones.
        due(x.tally(0, 0), 4);
        due(x.tally(0, 1), 2);
        row(x, 0, 8, 2, 1);
        // Behind the first coin it alone lies there.
        due(x.tally(0, 0), 16);
        due(x.tally(0, 1), 2 * 6 + 2);
        row(x, 0, 16, 2, 0);
        due(x.tally(0, 0), 0);
        due(x.tally(0, 1), NONE);
        x.ticket(1);
        // 1 is answered with none, 2 with one, all others with both.
        row(x, 0, 16, 0);
        due(x.tally(0, 0), 1);
        due(x.tally(0, 1), 0);
        x.ticket(0);
        x.worth(1, 1);
        row(x, 0, 16, 1, 1);
        due(x.tally(0, 1), 0);
        x.worth(1, 2);
        x.ticket(50);
        row(x, 0, 16, 0, 0, 0, 0);
        due(x.tally(0, 0), 1);
        due(x.tally(0, 1), ((5 * 6 + 5) * 6 + 5) * 6 + 5);
        x.ticket(51);
        due(x.tally(0, 0), 0);
        due(x.tally(0, 1), NONE);
        row(x, 0, 16);
        due(x.tally(0, 0), 1);
        due(x.tally(0, 1), 0);
        row(x, 0, 16, 0, 0, 0, 0, 0);
        due(x.tally(0, 0), NONE);
        due(x.tally(1, 0), NONE);
        due(x.tally(0, 2), BEYOND);
        due(x.tally(0, -1), BEYOND);
        due(x.tally(4, 0), BEYOND);
        due(x.count(0), 2);
    }

    private static void voices() {
        of(28);
        says(3, 0, 7, 8, 10);
        says(3, 1, 7, 16, 11, 10);
        says(3, 2, 7, 13, 12, 11, 10);
        says(3, 3, 7, 3, 13);
        says(0, 3, Integer.MIN_VALUE, Integer.MIN_VALUE, 13);
        says(0, 0, Integer.MAX_VALUE, Integer.MIN_VALUE, 10);
        says(13, 0, 7, 5, 20, 10);
        says(13, 1, 7, 10, 11, 20, 10);
        says(13, 2, 7, 7, 12, 11, 20, 10);
        says(13, 3, 7, 1, 21, 13, 11, 20, 10);
        says(23, 0, 7, 8, 10);
        says(23, 1, 7, -16, 30, 11, 10);
        says(23, 2, 7, -19, 12, 30, 11, 10);
        says(23, 3, 7, 3, 13);
        says(33, 2, -7, -7, 40, 12, 11, 10);
        says(33, 1, 7, 16, 11, 10);
        says(43, 0, 7, 15, 50, 20, 10);
        says(43, 2, 7, 27 ^ 1, 51, 12, 11, 50, 20, 10);
        says(43, 3, 7, -3, 21, 13, 11, 50, 20, 10);
        says(53, 1, 7, -18, 60, 30, 11, 10);
        says(53, 2, 7, -21, 12, 60, 30, 11, 10);
        says(63, 0, 7, 2, 70);
        says(63, 1, 7, 7, 71, 11, 70);
        says(63, 2, 7, 4, 12, 71, 11, 70);
        says(63, 3, 7, 10, 21, 13, 71, 11, 70);
        for (int kind = 0; kind < 7; kind++) {
            LastInBox x = box(10 * kind + 1);
            due(x.voice(3, 7), PARTED);
            due(x.told(6), 1);
        }
        // The BODIES of a voice() that is PARTED began, too; nothing begins behind it.
        LastInBox parted = box(41);
        due(parted.voice(0, 7), 15);
        due(parted.voice(3, 7), PARTED);
        due(parted.count(7), 2);
        due(parted.body(0), 21);
        due(parted.body(1), 13);
        due(parted.voice(0, 7), 15);
        due(parted.count(7), 3);
        LastInBox x = box(12);
        due(x.voice(4, 0), BEYOND);
        due(x.voice(-1, 0), BEYOND);
        of(29);
        due(x.body(0), NONE);
        due(x.told(2), 1);
        x.voice(1, 5);
        due(x.body(0), 11);
        due(x.voice(4, 0), BEYOND);
        due(x.count(7), 3);
        x.voice(0, 5);
        due(x.count(7), 2);
        due(x.body(2), NONE);
        // An answer that wraps into the ERRORS' numbers is none.
        x.box(0);
        due(x.voice(0, -1000000003), -1000000002);
        due(x.told(2), 2);
    }

    private static void sheets() {
        of(30);
        LastInBox x = new LastInBox();
        due(x.sheet(0, 8, 24), 1);
        due(x.sheet(0, 8, 25), BEYOND);
        due(x.sheet(0, 8, -1), STATE);
        due(x.sheet(0, 7, -1), BEYOND);
        due(x.sheet(4, 8, 1), BEYOND);
        due(x.sheet(-1, 0, 0), BEYOND);
        due(x.put(0, 23, 1), 1);
        due(x.sheet(0, 16, 0), 1);
        due(x.put(0, 0, 1), BEYOND);
        due(x.sheet(0, 0, -5), 1);
        due(x.put(0, 0, 1), NONE);
        due(x.sheet(3, 0, 99), 1);
        of(31);
        row(x, 0, 8, 3, 4);
        due(x.put(4, 0, 0), BEYOND);
        due(x.put(1, 9, 0), NONE);
        due(x.put(0, 2, 0), BEYOND);
        due(x.put(0, -1, 0), BEYOND);
        due(x.lays(0), 2);
        heapIs(x, 40, 30);
        x.empty();
        row(x, 1, 8, 256 + 2, -251, 5 << 8);
        due(x.lays(1), 3);
        heapIs(x, 0, 50, 20);
        x.empty();
        row(x, 1, 16, 65536 + 2, 258);
        due(x.lays(1), 1);
        row(x, 1, 32, 5, 65536 + 2);
        due(x.lays(1), 1);
        heapIs(x, 50, 20);
        x.empty();
        // A new one is all 0.
        x.sheet(1, 32, 2);
        due(x.lays(1), 2);
        heapIs(x, 0, 0);
        of(32);
        x = new LastInBox();
        row(x, 0, 8, 0, 1, 2, 3, 4);
        row(x, 1, 8, 5, 5);
        row(x, 2, 16, 1, 1);
        due(x.move(4, 0, 0, 0, 1), BEYOND);
        due(x.move(0, 0, -1, 0, 1), BEYOND);
        due(x.move(3, 0, 0, 0, 1), NONE);
        due(x.move(0, 0, 3, 0, -1), NONE);
        due(x.move(0, 0, 2, 0, -1), KIND);
        due(x.move(0, 0, 1, 0, 3), BEYOND);
        due(x.move(0, 4, 1, 0, 2), BEYOND);
        due(x.move(0, 0, 1, 2, 1), BEYOND);
        due(x.move(0, -1, 1, 0, 1), BEYOND);
        due(x.move(0, 0, 1, -1, 1), BEYOND);
        due(x.move(0, 0, 1, 0, -1), BEYOND);
        due(x.move(0, Integer.MAX_VALUE, 1, 0, Integer.MAX_VALUE), BEYOND);
        due(x.move(0, 5, 1, 2, 0), 0);
        due(x.move(0, 6, 1, 2, 0), BEYOND);
        due(x.move(0, 0, 0, 1, 4), 4);
        due(x.lays(0), 5);
        heapIs(x, 30, 20, 10, 0, 0);
        due(x.move(0, 2, 0, 0, 3), 3);
        x.empty();
        due(x.lays(0), 5);
        heapIs(x, 30, 20, 30, 20, 10);
        due(x.move(0, 3, 1, 0, 2), 2);
        x.empty();
        due(x.lays(1), 2);
        heapIs(x, 30, 20);
        of(33);
        due(x.lays(4), BEYOND);
        due(x.lays(-1), BEYOND);
        due(x.lays(3), NONE);
        row(x, 0, 8, 1, 6, 1);
        due(x.lays(0), 1);
        row(x, 0, 8, -1);
        due(x.lays(0), 0);
        x.sheet(0, 8, 24);
        due(x.lays(0), 21);
        due(x.lays(0), 0);
        due(x.told(4), 0);
    }

    private static void images() {
        of(34);
        LastInBox x = box(42, 10, 3);
        due(x.restore(), NONE);
        x.person();
        x.give(0, 3, 2);
        x.worth(1, 9);
        x.ticket(2);
        x.stranger(3);
        x.seed(77);
        told(x, 0, "w");
        told(x, 1, "0-w");
        tape(x, "l+");
        x.tell(4);
        x.sheet(0, 8, 1);
        x.voice(1, 3);
        due(x.image(), 1);
        of(35);
        x.empty();
        x.person();
        x.give(0, 3, 9);
        x.worth(1, 3);
        x.ticket(4);
        x.box(69);
        x.draws(9);
        x.untell(0);
        x.untell(1);
        tape(x, "k");
        x.text(0);
        x.check();
        x.put(0, 0, 5);
        x.voice(0, 3);
        due(x.restore(), 3);
        long[] was = {3, 1 + 10 + 10, 1, 1, 2, 2, 1, 1, 77, 1, 9, 5, 10, 20, 50, 4, 2};
        for (int i = 0; i < was.length; i++) {
            due(x.count(i), was[i]);
        }
        heapIs(x, 30, 30, 1);
        due(x.personIs(0, 3), 2);
        due(x.personIs(1, 3), BEYOND);
        // What an IMAGE doesn't keep is as it was: SHEETS, THE TRACE told().
        due(x.body(0), 70);
        due(x.told(2), 1);
        due(x.lays(0), 1);
        due(x.coin(0), 50);
        due(x.untell(0), 1);
        due(x.untell(1), 1);
        due(x.feed('m', 1), 3);
        due(x.text(0), 1);
        // MARKS, THE TAPE's bytes, TEXTS and the numbers that wait are what they were.
        LastInBox y = box(60, 0, 0, 10);
        y.person();
        y.give(0, 3, 9);
        told(y, 0, "k<1&w<5");
        due(y.go(0, 3), 1);
        tape(y, "k<");
        y.tell(3);
        due(y.image(), 1);
        due(y.text(0), -12);
        due(told(y, 0, "0"), 1);
        tape(y, "w*");
        y.empty();
        y.lay(5, 1);
        told(y, 0, "1");
        tape(y, "zz");
        due(y.go(0, 3), 50);
        due(y.personIs(0, 7), 2);
        y.check();
        y.tell(0);
        due(y.restore(), 3);
        due(y.personIs(0, 7), 1);
        due(y.change(3, 1), 1);
        due(y.change(3, 4), 0);
        due(tape(y, "2&w<5"), 7);
        due(y.text(0), 1);
        due(y.change(3, 1), 2);
        due(y.check(), 2);
        // It stays, and a later one stands in its place.
        due(x.restore(), 3);
        due(x.restore(), 3);
        x.empty();
        due(x.image(), 2);
        due(x.restore(), 0);
        due(x.image(), 3);
    }

    private static void numbersThatWait() {
        of(36);
        LastInBox x = new LastInBox();
        for (int i = 1; i <= 24; i++) {
            due(x.tell(i - 5), i);
        }
        due(x.tell(0), FULL);
        due(x.count(6), 24);
        of(37);
        due(x.check(), 1);
        due(x.count(6), 0);
        due(x.check(), 0);
        x.lay(1, 0);
        x.lay(4, 1);
        due(x.check(), 1);
        x.tell(4);
        due(x.check(), 2);
        x.tell(4);
        x.tell(1);
        due(x.check(), 0);
        x.tell(1);
        x.tell(4);
        due(x.check(), 1);
        x.tell(4);
        x.tell(2);
        due(x.check(), 2);
        x.tell(4);
        x.tell(1);
        x.tell(0);
        due(x.check(), 3);
        for (int i = 0; i < 22; i++) {
            x.lay(0, 0);
        }
        for (int i = 0; i < 24; i++) {
            x.tell(i < 22 ? 0 : i == 22 ? 4 : 1);
        }
        due(x.check(), 0);
        due(x.told(4), 1);
    }

    private static void counts() {
        of(38);
        LastInBox x = box(57, 4, 3);
        due(x.count(0), 2);
        due(x.count(1), 30);
        due(x.count(15), 5);
        due(x.count(16), 7);
        due(x.count(17), BEYOND);
        due(x.count(-1), BEYOND);
        x.seed(-1000000004);
        due(x.count(8), -1000000004);
        of(39);
        due(x.told(4), 0);
        due(x.told(1), 2);
        due(x.told(1), 2);
        due(x.told(0), BEYOND);
        due(x.told(7), BEYOND);
        due(x.told(-1), BEYOND);
        due(x.told(1), 5);
        x.body(0);
        x.stranger(0);
        x.as(3);
        x.box(1);
        x.voice(3, 0);
        due(x.wrong(9, 9), BEYOND);
        for (int k = 1; k <= 6; k++) {
            due(x.told(k), k == 1 ? 6 : k == 4 ? 0 : 1);
        }
    }

    public static void main(String[] args) {
        aNewObject();
        worthAndTicket();
        kinds();
        heap();
        people();
        tapes();
        faults();
        values();
        changes();
        goes();
        strangersAndDraws();
        dears();
        gets();
        queues();
        odds();
        musts();
        voices();
        sheets();
        images();
        numbersThatWait();
        counts();
        ends("PromiseTests");
    }
}
