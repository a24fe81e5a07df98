/** Each sentence on what would be (the document's Terms 3, promises 19 to 27) that names an edge, with a test of its own. */
public final class WouldBeSentences extends Checks {
    private static void changes() {
        sentence("what 0 its worth, 1 how many coins, 2 1 if RIGHT, else 0, 3 how many are MARKED, 4 + i the i-th coin's SORT", () -> {
            LastInBox x = box(10, 0, 11, 2);
            due(x.change(3, 0), 7);
            due(x.change(3, 1), 2);
            due(x.change(3, 2), 1);
            due(x.change(3, 3), 1);
            due(x.change(3, 4), 2);
            due(x.change(3, 5), 1);
            due(x.change(4, 2), 0);
            due(x.change(3, -1), BEYOND);
            due(x.change(-1, 0), BEYOND);
            due(x.change(6, 0), BEYOND);
            heapIs(x, 20, 11, 0);
        });
        sentence("NONE: there is no i-th.", () -> {
            LastInBox x = box(10, 0, 1, 2);
            due(x.change(3, 6), NONE);
            due(x.change(3, 28), NONE);
            due(x.change(3, Integer.MAX_VALUE), NONE);
            x.ticket(10);
            due(x.change(3, 4), NONE);
            due(box(0, 0).change(3, 4), NONE);
        });
        sentence("CHANGE for a coin of a SORT: what 0", () -> {
            // STATE is asked behind BEYOND and ahead of NONE; a coin of WORTH THE TICKET is none too small.
            LastInBox x = box(10, 0);
            due(x.change(1, 0), STATE);
            due(x.change(1, 4), STATE);
            due(x.change(1, -1), BEYOND);
            x.ticket(2);
            due(x.change(1, 0), 0);
            due(x.change(1, 2), 1);
            due(x.change(0, 0), STATE);
        });
    }

    private static void dears() {
        sentence("DEAR of one of PEOPLE: the SORT in the PURSE of WORTH THE TICKET or more", () -> {
            LastInBox x = box(0);
            person(x, 1, 3);
            due(x.dear(0), 3);
            x.ticket(2);
            due(x.dear(0), 1);
            x.give(0, 1, 0);
            due(x.dear(0), 3);
            x.ticket(10);
            due(x.dear(0), 3);
            x.ticket(11);
            due(x.dear(0), NONE);
        });
        sentence("by a GO with which LIKES of all coins of CHANGE (by TAKEN as it is now), less LIKES of the coin, are most", () -> {
            // For a 5 comes 1 in all, for a 10 or a 20 comes 51.
            LastInBox x = box(50, 5, 0);
            x.worth(5, 6);
            person(x, 2, 3, 4);
            due(x.dear(0), 3);
            told(x, 1, "(s=5)+(s=4)*t");
            due(x.dear(0), 3);
            x.stranger(5);
            due(x.count(3), 1);
            // TAKEN is 1 now, and is no 2 for the GO that would be: a 20 is liked by 1, a 5 by as much as 9 in any.
            told(x, 1, "(s=4)*(t=2)*9+(s=2)");
            due(x.dear(0), 3);
            told(x, 1, "(s=3)*(t=1)*9+(s=2)");
            due(x.dear(0), 4);
        });
        sentence("of several the least", () -> {
            LastInBox x = box(0);
            person(x, 2, 3, 5);
            told(x, 1, "7");
            due(x.dear(0), 2);
            x.give(0, 2, 0);
            due(x.dear(0), 3);
            // SORT 0, as good as the others, and better.
            x.give(0, 0, 1);
            x.ticket(1);
            due(x.dear(0), 0);
            x.untell(1);
            due(x.dear(0), 0);
        });
        sentence("NONE: there is no such coin.", () -> {
            LastInBox x = new LastInBox();
            due(x.dear(0), BEYOND);
            due(x.dear(-1), BEYOND);
            person(x);
            due(x.dear(0), NONE);
            due(x.dear(1), BEYOND);
            x.give(0, 1, 99);
            due(x.dear(0), NONE);
            x.give(0, 2, 1);
            due(x.dear(0), 2);
        });
    }

    private static void gets() {
        sentence("the fewest GOES (0 .. n) of that one", () -> {
            // A FIRST box gives a 20 for each 10; the 50 lies behind three of them.
            LastInBox x = box(20, 4, 4, 4, 5);
            person(x);
            x.give(0, 3, 4);
            due(x.get(0, 5, 4), 4);
            due(x.get(0, 5, 3), NONE);
            due(x.get(0, 4, 1), 1);
            due(x.get(0, 4, 4), 1);
            due(x.get(0, 4, 0), NONE);
            due(x.get(0, 5, -1), BEYOND);
            due(x.get(0, 5, 5), BEYOND);
            heapIs(x, 50, 40, 40, 40);
            due(x.personIs(0, 3), 4);
            due(x.count(3), 0);
        });
        sentence("with whatever coins there are in the PURSE then", () -> {
            // The one coin that there is buys the 20, and that 20 the 50.
            LastInBox x = box(20, 4, 5);
            person(x, 3);
            due(x.get(0, 5, 2), 2);
            due(x.get(0, 5, 1), NONE);
            // A 2 that comes is of WORTH below THE TICKET: it buys nothing.
            x = box(20, 1, 5);
            x.ticket(8);
            person(x, 3);
            due(x.get(0, 5, 4), NONE);
            due(x.get(0, 1, 4), 1);
            x.ticket(2);
            due(x.get(0, 5, 4), 1);
            // Coins of SORT 0 buy, too.
            x = box(20, 4, 5);
            x.worth(0, 4);
            person(x, 0);
            due(x.get(0, 4, 1), 1);
            due(x.get(0, 5, 2), 2);
            // Nothing in the PURSE: no GO.
            x = box(20, 4);
            person(x);
            due(x.get(0, 4, 4), NONE);
        });
        sentence("so that there are more of that SORT in the PURSE than now", () -> {
            // A 10 for a 10 is as many as now; the 5 that comes with it buys one more.
            LastInBox x = box(20, 3, 5);
            person(x, 3);
            due(x.get(0, 3, 1), NONE);
            x = box(20, 2, 3, 3);
            person(x, 3);
            due(x.get(0, 3, 1), NONE);
            due(x.get(0, 3, 4), 2);
            // If it is of WORTH below THE TICKET, it doesn't; a 50 of WORTH 19 gets one for nothing.
            x.worth(3, 19);
            x.worth(2, 1);
            due(x.get(0, 3, 4), NONE);
            x.worth(5, 19);
            x.give(0, 5, 1);
            due(x.get(0, 3, 4), 1);
            // There are never more than 99.
            x.give(0, 3, 98);
            due(x.get(0, 3, 1), 1);
            x.give(0, 3, 99);
            due(x.get(0, 3, 4), NONE);
        });
        sentence("GET by n. BEYOND. NONE.", () -> {
            LastInBox x = box(20, 4);
            due(x.get(0, 4, 1), BEYOND);
            person(x, 3);
            due(x.get(0, 4, 1), 1);
            due(x.get(1, 4, 1), BEYOND);
            due(x.get(-1, 4, 1), BEYOND);
            due(x.get(0, -1, 1), BEYOND);
            due(x.get(0, 6, 1), BEYOND);
            due(x.get(0, 0, 1), NONE);
        });
    }

    /** THE BOX gives nothing, so that with a ticket of 5 only a 5 is RIGHT. */
    private static LastInBox fives(int... sorts) {
        LastInBox x = box(0);
        x.ticket(5);
        for (int sort : sorts) {
            person(x, sort);
        }
        return x;
    }

    private static void queues() {
        sentence("not 0 .. 5, or one that isn't in the PURSE, or of WORTH below THE TICKET: that one doesn't stand in it", () -> {
            LastInBox x = fives(2, 3, 1, 5, 0, 4);
            row(x, 0, 8, 6, 3, 1, 4, 0, 4);
            // 0: 6 is no SORT. 2: a 2 is below THE TICKET. 3: has no 20. 4: a 1 is below.
            due(x.order(0, 0), 1);
            due(x.order(0, 1), 5);
            due(x.order(0, 2), NONE);
            due(x.order(0, -1), 0);
            row(x, 0, 8, -1, 255, -1, 5);
            due(x.order(0, 0), 3);
            due(x.order(0, 1), NONE);
            // A 5 is of WORTH THE TICKET.
            row(x, 0, 8, 2);
            due(x.order(0, 0), 0);
            due(x.order(0, -1), 1);
            x.give(0, 2, 0);
            due(x.order(0, 0), NONE);
            due(x.order(0, -1), 0);
            due(x.dawn(0, 0), 0);
        });
        sentence("number i is the SORT of one of PEOPLE i", () -> {
            // A row that is shorter, or longer, than there are PEOPLE.
            LastInBox x = fives(2, 2);
            row(x, 0, 16);
            due(x.order(0, -1), 0);
            due(x.order(0, 0), NONE);
            row(x, 0, 16, 2);
            due(x.order(0, -1), 1);
            due(x.order(0, 1), NONE);
            row(x, 0, 16, 9, 2, 2, 2, 2, 2, 2, 2);
            due(x.order(0, -1), 1);
            due(x.order(0, 0), 1);
            due(x.order(0, 1), NONE);
            x.sheet(0, 16, 24);
            due(x.order(0, -1), 0);
            // Who stood in a QUEUE ahead, and would be RIGHT, doesn't stand in this one.
            x = fives(3, 2, 2);
            row(x, 0, 16, 3, 2, 2);
            due(x.order(0, -1), 2);
            row(x, 0, 16, 3, 9, 9);
            due(x.order(0, -1), 0);
            due(x.order(0, 0), 0);
            due(x.order(0, 1), NONE);
            due(x.dawn(0, 0), NONE);
            row(x, 0, 16, 9, 2, 9);
            due(x.dawn(0, 0), 0);
            // All six.
            x = fives(2, 3, 2, 3, 2, 3);
            row(x, 0, 32, 2, 3, 2, 3, 2, 3);
            due(x.order(0, -1), 3);
            for (int i = 0; i < 6; i++) {
                due(x.order(0, i), i);
            }
            due(x.order(0, 6), NONE);
            // 258 is a 2 in 8 bits alone.
            row(x, 0, 16, 258);
            due(x.order(0, -1), 0);
            row(x, 0, 8, 258);
            due(x.order(0, -1), 1);
        });
        sentence("ORDER: that row of them in which most GOES are RIGHT", () -> {
            // A LAST box gives what came last: each but the first is RIGHT behind the one who brings the change.
            LastInBox x = new LastInBox();
            x.worth(0, 12);
            x.worth(1, 9);
            x.worth(2, 6);
            for (int i = 0; i < 3; i++) {
                person(x, i);
            }
            row(x, 0, 8, 0, 1, 2);
            due(x.order(0, -1), 2);
            due(x.order(0, 0), 2);
            due(x.order(0, 1), 1);
            due(x.order(0, 2), 0);
            // With a 3 in the heap the first is RIGHT, too.
            x.worth(3, 3);
            x.lay(3, 0);
            due(x.order(0, -1), 3);
            due(x.order(0, 0), 2);
            heapIs(x, 30);
            due(x.personIs(0, 0), 1);
        });
        sentence("of several the first as a row", () -> {
            LastInBox x = fives(3, 2, 4);
            row(x, 0, 8, 3, 2, 4);
            due(x.order(0, -1), 1);
            for (int i = 0; i < 3; i++) {
                due(x.order(0, i), i);
            }
            // Only a row with 2 ahead of 1 is best; 0 may stand anywhere: first.
            x = box(10);
            x.worth(1, 12);
            x.worth(2, 9);
            x.worth(5, 3);
            person(x, 5);
            person(x, 1);
            person(x, 2);
            row(x, 0, 8, 5, 1, 2);
            due(x.order(0, -1), 2);
            due(x.order(0, 0), 0);
            due(x.order(0, 1), 2);
            due(x.order(0, 2), 1);
        });
        sentence("ORDER of a QUEUE: the i-th (i -1: how many GOES are RIGHT). BEYOND: SHEET, i below -1.", () -> {
            LastInBox x = fives(2);
            row(x, 0, 8, 2);
            due(x.order(0, -1), 1);
            due(x.order(0, -2), BEYOND);
            due(x.order(0, Integer.MIN_VALUE), BEYOND);
            due(x.order(-1, 0), BEYOND);
            due(x.order(4, 0), BEYOND);
            due(x.order(3, -2), BEYOND);
        });
        sentence("NONE: it is missing, or there is no i-th.", () -> {
            LastInBox x = fives(2);
            due(x.order(0, 0), NONE);
            due(x.order(0, -1), NONE);
            row(x, 0, 8, 2);
            due(x.order(0, 0), 0);
            due(x.order(0, 1), NONE);
            due(x.order(0, Integer.MAX_VALUE), NONE);
            x.sheet(0, 0, 0);
            due(x.order(0, -1), NONE);
        });
    }

    /** One of PEOPLE with a 10, who stands in the QUEUE of SHEET 0. */
    private static LastInBox tenAtDawn(int km) {
        LastInBox x = box(km);
        person(x, 3);
        row(x, 0, 8, 3);
        return x;
    }

    private static void dawns() {
        sentence("DAWN of a SORT by a QUEUE in order of numbers", () -> {
            // 0 with a 9 is RIGHT with two 3's; the 9 is what 1 with a 12 wants: RIGHT in order of numbers only.
            LastInBox x = new LastInBox();
            x.worth(0, 3);
            x.worth(1, 9);
            x.worth(2, 12);
            person(x, 1);
            person(x, 2);
            row(x, 0, 8, 1, 2);
            due(x.dawn(0, 0), 2);
            x = new LastInBox();
            x.worth(0, 3);
            x.worth(1, 9);
            x.worth(2, 12);
            person(x, 2);
            person(x, 1);
            row(x, 0, 8, 2, 1);
            due(x.dawn(0, 0), NONE);
        });
        sentence("the fewest coins of that SORT (0 .. 9)", () -> {
            LastInBox x = tenAtDawn(10);
            due(x.dawn(0, 0), 7);
            x.ticket(10);
            due(x.dawn(0, 0), 0);
            x.ticket(1);
            due(x.dawn(0, 0), 9);
            x.ticket(0);
            due(x.dawn(0, 0), NONE);
            due(x.dawn(0, 1), 5);
            due(x.dawn(0, 3), 1);
            heapIs(x);
        });
        sentence("laid in as the latest ones of THE HEAP (as far as there is room)", () -> {
            // A LAST box gives them first, a FIRST box what lies ahead of them.
            LastInBox x = tenAtDawn(10);
            lays(x, 17, 5);
            due(x.dawn(0, 0), 7);
            x.lay(5, 0);
            due(x.dawn(0, 0), NONE);
            x.ticket(4);
            due(x.dawn(0, 0), 6);
            x.lay(5, 0);
            due(x.dawn(0, 0), NONE);
            x = tenAtDawn(20);
            x.lay(5, 0);
            due(x.dawn(0, 0), NONE);
            // All room is taken, yet all GOES are RIGHT.
            x = tenAtDawn(20);
            lays(x, 24, 0);
            due(x.dawn(0, 5), 0);
            due(x.count(0), 24);
        });
        sentence("with which all GOES are RIGHT", () -> {
            // Two 10's want 7 each of a FIRST box: with 7 only the first is RIGHT, with 14 both would be.
            LastInBox x = tenAtDawn(20);
            person(x, 3);
            row(x, 0, 8, 3, 3);
            due(x.dawn(0, 0), NONE);
            lays(x, 5, 0);
            due(x.dawn(0, 0), 9);
            x.lay(0, 0);
            due(x.dawn(0, 0), 8);
            // Nobody stands in it: all are RIGHT.
            row(x, 0, 8);
            due(x.dawn(0, 0), 0);
        });
        sentence("DAWN. BEYOND. NONE: the SHEET is missing; 9 don't do.", () -> {
            LastInBox x = tenAtDawn(0);
            due(x.dawn(0, 0), NONE);
            due(x.dawn(1, 0), NONE);
            due(x.dawn(4, 0), BEYOND);
            due(x.dawn(-1, 0), BEYOND);
            due(x.dawn(0, 6), BEYOND);
            due(x.dawn(0, -1), BEYOND);
            due(x.dawn(1, 6), BEYOND);
        });
    }

    private static void odds() {
        sentence("WRONG by n (1 .. 4)", () -> {
            LastInBox x = box(0);
            x.ticket(20);
            // A 20 is RIGHT, a 50 isn't: one of two, n times over.
            for (int n = 1; n <= 4; n++) {
                due(x.wrong(n, 0), (1 << n) - 1);
                due(x.wrong(n, 1), 1 << n);
            }
            due(x.wrong(0, 0), BEYOND);
            due(x.wrong(5, 0), BEYOND);
            due(x.wrong(1, -1), BEYOND);
            due(x.wrong(1, 2), BEYOND);
        });
        sentence("each with a coin of one of the SORTS (as likely each) of WORTH THE TICKET or more", () -> {
            // 5, 10, 20 and 50 are four SORTS, of which the 5 is RIGHT; then three of four, though of like WORTH.
            LastInBox x = box(0);
            x.ticket(5);
            due(x.wrong(1, 0), 3);
            due(x.wrong(1, 1), 4);
            x.worth(3, 5);
            x.worth(4, 5);
            due(x.wrong(1, 0), 1);
            due(x.wrong(1, 1), 4);
            x.worth(2, 4);
            due(x.wrong(1, 1), 3);
            x.worth(5, 99);
            x.ticket(99);
            due(x.wrong(4, 0), 0);
            due(x.wrong(4, 1), 1);
        });
        sentence("one at least isn't RIGHT", () -> {
            // The heap has change for the first coin alone; the second one is never RIGHT behind a 50.
            LastInBox x = box(0);
            x.ticket(10);
            due(x.wrong(1, 0), 2);
            due(x.wrong(1, 1), 3);
            due(x.wrong(2, 0), 8);
            due(x.wrong(2, 1), 9);
            // The first is always RIGHT, the second isn't.
            x = box(10, 5);
            x.ticket(49);
            x.worth(5, 50);
            x.worth(0, 1);
            x.empty();
            x.lay(0, 0);
            due(x.wrong(1, 0), 0);
            due(x.wrong(1, 1), 1);
            due(x.wrong(2, 0), 1);
            due(x.wrong(2, 1), 1);
            heapIs(x, 0);
            due(x.count(3), 0);
        });
        sentence("a fraction in lowest terms", () -> {
            LastInBox x = box(0);
            x.ticket(1);
            x.worth(1, 1);
            x.worth(2, 1);
            // Three of six, then 36 less 9 of 36.
            due(x.wrong(1, 0), 1);
            due(x.wrong(1, 1), 2);
            due(x.wrong(2, 0), 3);
            due(x.wrong(2, 1), 4);
            due(x.wrong(4, 0), 15);
            due(x.wrong(4, 1), 16);
            x.worth(2, 5);
            // 1296 less 16 of 1296.
            due(x.wrong(4, 0), 80);
            due(x.wrong(4, 1), 81);
        });
        sentence("part 0 above, 1 below the line (0 is 0 by 1)", () -> {
            LastInBox x = box(0);
            x.ticket(50);
            due(x.wrong(1, 0), 0);
            due(x.wrong(1, 1), 1);
            // Always wrong is 1 by 1.
            x.ticket(0);
            due(x.wrong(3, 0), 1);
            due(x.wrong(3, 1), 1);
        });
        sentence("STATE: no SORT is of WORTH THE TICKET.", () -> {
            LastInBox x = box(0);
            x.ticket(51);
            due(x.wrong(1, 0), STATE);
            due(x.wrong(4, 1), STATE);
            due(x.wrong(5, 1), BEYOND);
            x.worth(0, 51);
            due(x.wrong(1, 0), 0);
        });
    }

    private static void agains() {
        sentence("behind how many STRANGERS' GOES (1 .. 60) with coins of it a MARKED one is given first", () -> {
            // A FIRST box with 24 coins gives one for each 5: the MARKED one lies last.
            LastInBox x = box(20);
            x.ticket(4);
            lays(x, 23, 0);
            x.lay(0, 1);
            due(x.again(2), 24);
            due(x.count(0), 24);
            due(x.coin(0), 1);
            due(x.count(3), 0);
            due(box(20, 10, 0, 10).again(2), 1);
            due(box(20, 0, 10).again(2), 1);
            due(box(20, 0, 0, 10).again(2), 2);
            // A second MARKED one doesn't matter; nor is one that lies deep given by a LAST box.
            due(box(20, 0, 0, 0, 10, 10).again(2), 2);
            due(box(10, 10, 4).again(2), NONE);
        });
        sentence("AGAIN. BEYOND. STATE: its WORTH is below THE TICKET. NONE.", () -> {
            LastInBox x = box(20, 10);
            due(x.again(-1), BEYOND);
            due(x.again(6), BEYOND);
            due(x.again(1), STATE);
            due(x.again(2), 1);
            // Of WORTH THE TICKET nothing is due.
            x.ticket(5);
            due(x.again(2), NONE);
            due(x.again(3), 1);
            due(new LastInBox().again(3), NONE);
            due(box(0, 10).again(3), NONE);
        });
    }

    private static void musts() {
        sentence("KINDS 0 .. 5 (as bits, with m as it is) of which THE BOX would give just the coins that are told", () -> {
            // 7 is due of 1, 5, 2, 5, 10 (the first to the latest): each KIND has a row of its own, but GREAT.
            LastInBox x = box(65, 0, 2, 1, 2, 3);
            row(x, 0, 8);
            due(x.must(0, 3), 1 << 0 | 1 << 4);
            row(x, 0, 8, 3);
            due(x.must(0, 3), 1 << 1);
            row(x, 0, 8, 0, 2, 1);
            due(x.must(0, 3), 1 << 2);
            row(x, 0, 8, 2, 1);
            due(x.must(0, 3), 1 << 3);
            row(x, 0, 8, 0, 2);
            due(x.must(0, 3), 1 << 5);
            x.empty();
            x.lay(2, 0);
            row(x, 0, 8, 2);
            due(x.must(0, 3), 0b111110);
            // A TOLD box counts not, whatever it is told; THE BOX stays what it is.
            told(x, 0, "1");
            due(x.must(0, 3), 0b111110);
            due(x.box(0), 65);
            heapIs(x, 20);
        });
        sentence("(SORTS of a row, as they come out) for one", () -> {
            LastInBox x = box(10, 1, 2);
            row(x, 0, 16, 2, 1);
            due(x.must(0, 3) >> 1 & 1, 1);
            row(x, 0, 16, 1, 2);
            due(x.must(0, 3) >> 1 & 1, 0);
            row(x, 0, 16, 2);
            due(x.must(0, 3), 0);
            row(x, 0, 16, 2, 1, 0);
            due(x.must(0, 3), 0);
            row(x, 0, 16, 2, 6);
            due(x.must(0, 3), 0);
            row(x, 0, 16, 6, 1);
            due(x.must(0, 3), 0);
            row(x, 0, 16, 0, 1);
            due(x.must(0, 3), 0);
            // SORTS of like WORTH are other SORTS.
            x.worth(0, 2);
            row(x, 0, 16, 2, 0);
            due(x.must(0, 3), 0);
        });
        sentence("MUST by a SORT, of a SHEET. BEYOND. NONE: it is missing. STATE: its WORTH is below THE TICKET.", () -> {
            LastInBox x = box(10);
            due(x.must(4, 3), BEYOND);
            due(x.must(-1, 3), BEYOND);
            due(x.must(0, 6), BEYOND);
            due(x.must(0, -1), BEYOND);
            due(x.must(0, 3), NONE);
            due(x.must(0, 0), NONE);
            x.sheet(0, 8, 0);
            due(x.must(0, 1), STATE);
            x.ticket(2);
            due(x.must(0, 1), 0b111111);
        });
    }

    private static void tallies() {
        sentence("TALLY: rows of as many coins as there are numbers (at most 4)", () -> {
            // A BOX answers each with none.
            LastInBox x = box(0);
            for (int n = 0; n <= 4; n++) {
                x.sheet(0, 8, n);
                due(x.tally(0, 0), 1L << (2 * n));
            }
            x.sheet(0, 8, 5);
            due(x.tally(0, 0), NONE);
            due(x.tally(0, 1), NONE);
        });
        sentence("SORTS of WORTH THE TICKET or more, put in by STRANGERS one behind the other", () -> {
            LastInBox x = box(0);
            row(x, 0, 8, 0);
            x.ticket(10);
            due(x.tally(0, 0), 3);
            due(x.tally(0, 1), 3);
            x.ticket(11);
            due(x.tally(0, 0), 2);
            due(x.tally(0, 1), 4);
            // The second coin is answered out of the heap with the first.
            x = box(10);
            row(x, 0, 8, 0, 1);
            x.ticket(20);
            due(x.tally(0, 0), 2);
            due(x.tally(0, 1), 4 * 6 + 5);
            heapIs(x);
            due(x.count(3), 0);
        });
        sentence("of which the i-th is answered with just so many coins as number i tells", () -> {
            LastInBox x = box(10, 0, 0);
            row(x, 0, 8, 1);
            due(x.tally(0, 0), 0);
            row(x, 0, 8, 2);
            due(x.tally(0, 0), 4);
            row(x, 0, 8, 3);
            due(x.tally(0, 0), 0);
            row(x, 0, 8, -1);
            due(x.tally(0, 0), 0);
            row(x, 0, 8, 2, 1);
            due(x.tally(0, 0), 16);
            row(x, 0, 8, 1, 2);
            due(x.tally(0, 0), 0);
            row(x, 0, 32, 258);
            due(x.tally(0, 0), 0);
        });
        sentence("the first of them as a number of base 6 (the first coin's SORT its highest digit; 0 without numbers)", () -> {
            LastInBox x = box(0);
            row(x, 0, 8);
            due(x.tally(0, 1), 0);
            due(x.tally(0, 0), 1);
            row(x, 0, 8, 0, 0, 0, 0);
            due(x.tally(0, 1), ((2 * 6 + 2) * 6 + 2) * 6 + 2);
            x.ticket(0);
            due(x.tally(0, 1), 0);
            x.ticket(50);
            due(x.tally(0, 1), 6 * 6 * 6 * 6 - 1);
            // In a KEEP box a 5 gets the 2; then that 5 is too much for a 5, but not for a 10.
            x = box(40, 1);
            row(x, 0, 8, 1, 1);
            due(x.tally(0, 1), 2 * 6 + 3);
            row(x, 0, 8, 1, 0);
            due(x.tally(0, 1), 2 * 6 + 2);
            row(x, 0, 8, 1, 0, 0);
            due(x.tally(0, 1), (2 * 6 + 2) * 6 + 2);
        });
        sentence("what 0 how many, 1 the first (NONE: there is none).", () -> {
            LastInBox x = box(0);
            row(x, 0, 8, 1);
            due(x.tally(0, 0), 0);
            due(x.tally(0, 1), NONE);
            x.ticket(51);
            row(x, 0, 8, 0);
            due(x.tally(0, 0), 0);
            due(x.tally(0, 1), NONE);
            due(x.tally(0, -1), BEYOND);
            due(x.tally(0, 2), BEYOND);
        });
        sentence("BEYOND. NONE: it is missing, or has more than 4 numbers.", () -> {
            LastInBox x = box(0);
            due(x.tally(3, 0), NONE);
            due(x.tally(3, 2), BEYOND);
            due(x.tally(4, 0), BEYOND);
            due(x.tally(-1, 0), BEYOND);
            x.sheet(3, 8, 4);
            due(x.tally(3, 0), 256);
            x.sheet(3, 8, 5);
            due(x.tally(3, 0), NONE);
            x.sheet(3, 8, 24);
            due(x.tally(3, 1), NONE);
            due(x.tally(3, 2), BEYOND);
        });
    }

    public static void main(String[] args) {
        changes();
        dears();
        gets();
        queues();
        dawns();
        odds();
        agains();
        musts();
        tallies();
        ends("WouldBeSentences");
    }
}
