/** Each sentence of the document's Terms that names an edge, by its own words, with a test of its own. */
public final class TermSentences extends Checks {
    private static final int MIN = Integer.MIN_VALUE;
    private static final int MAX = Integer.MAX_VALUE;

    private static void errors() {
        sentence("LOW - 1 BEYOND", () -> due(new LastInBox().lay(6, 0), -1000000001));
        sentence("LOW - 2 NONE", () -> due(new LastInBox().restore(), -1000000002));
        sentence("LOW - 3 STATE", () -> due(new LastInBox().stranger(0), -1000000003));
        sentence("LOW - 4 FULL", () -> {
            LastInBox x = new LastInBox();
            for (int i = 0; i < 6; i++) {
                due(x.person(), i);
            }
            due(x.person(), -1000000004);
        });
        sentence("LOW - 5 KIND", () -> due(new LastInBox().as(2), -1000000005));
        sentence("LOW - 6 PARTED", () -> due(box(1).voice(3, 0), -1000000006));
        sentence("(in longs, too)", () -> {
            LastInBox x = new LastInBox();
            due(x.wrong(0, 0), -1000000001L);
            x.ticket(51);
            due(x.wrong(1, 1), -1000000003L);
        });
        sentence("Quotients are cut toward 0.", () -> {
            isValue("(0-7)/2", -3);
            isValue("7/(0-2)", -3);
            isValue("(0-1)/2", 0);
            due(box(3).voice(3, -7), -3);
            due(box(0).voice(3, -7), 7);
            // A GREAT box keeps the half of -7, -3: (-3 + 1) * 2.
            due(box(30).voice(2, -7), -4);
        });
    }

    private static void sortsAndTicket() {
        sentence("SORTS of coins 0 .. 5", () -> {
            LastInBox x = new LastInBox();
            due(x.lay(0, 0), 1);
            due(x.lay(5, 0), 2);
            due(x.lay(-1, 0), BEYOND);
            due(x.lay(6, 0), BEYOND);
            due(x.stranger(5), 50);
            due(x.stranger(6), BEYOND);
        });
        sentence("each with a WORTH (1 .. 99", () -> {
            for (int sort = 0; sort < 6; sort++) {
                LastInBox x = box(10, sort);
                x.worth(sort, 99);
                due(x.count(1), 99);
                due(x.worth(sort, 1), 99);
                due(x.count(1), 1);
                due(x.worth(sort, 0), BEYOND);
                due(x.worth(sort, 100), BEYOND);
                due(x.worth(sort, 1), 1);
            }
        });
        sentence("at first 1, 2, 5, 10, 20, 50", () -> {
            int[] first = {1, 2, 5, 10, 20, 50};
            for (int sort = 0; sort < 6; sort++) {
                due(new LastInBox().worth(sort, 9), first[sort]);
                due(new LastInBox().count(9 + sort), first[sort]);
            }
        });
        sentence("THE TICKET costs (0 .. 99; 3 at first)", () -> {
            LastInBox x = new LastInBox();
            due(x.ticket(0), 3);
            due(x.ticket(99), 0);
            due(x.ticket(100), BEYOND);
            due(x.ticket(-1), BEYOND);
            due(x.ticket(3), 99);
        });
    }

    private static void heap() {
        sentence("in the order in which they came", () -> {
            LastInBox x = box(0, 4, 1, 3);
            x.stranger(2);
            heapIs(x, 20, 30, 10, 40);
        });
        sentence("at most 24", () -> {
            LastInBox x = new LastInBox();
            lays(x, 23, 0);
            due(x.lay(1, 0), 24);
            due(x.lay(2, 0), FULL);
            due(x.coin(0), 10);
            due(x.coin(23), 0);
            due(x.coin(24), BEYOND);
        });
        sentence("(none at first)", () -> {
            LastInBox x = new LastInBox();
            due(x.count(0), 0);
            due(x.coin(0), BEYOND);
            due(x.empty(), 0);
        });
        sentence("each is of a SORT, and MARKED or not", () -> heapIs(box(10, 0, 10, 5, 15), 51, 50, 1, 0));
        sentence("TAKEN: how many coins were put in ever (0 at first)", () -> {
            LastInBox x = new LastInBox();
            due(x.count(3), 0);
            lays(x, 24, 0);
            due(x.count(3), 0);
            x.stranger(3);
            due(x.count(3), 1);
            person(x, 3);
            x.go(0, 3);
            due(x.count(3), 2);
            x.empty();
            due(x.count(3), 2);
            x.ticket(0);
            x.draws(7);
            due(x.count(3), 9);
        });
    }

    private static void boxAndPeople() {
        sentence("with a number m (0 .. 9)", () -> {
            LastInBox x = box(0);
            due(x.count(16), 0);
            due(x.box(9), 0);
            due(x.count(16), 9);
            due(x.count(15), 0);
            due(x.box(10), 9);
            due(x.count(16), 0);
            due(x.count(15), 1);
        });
        sentence("LAST with m 0 at first", () -> {
            due(new LastInBox().box(0), 10);
            due(new LastInBox().count(15), 1);
            due(new LastInBox().count(16), 0);
        });
        sentence("PEOPLE 0, 1, .. (at most 6)", () -> {
            LastInBox x = new LastInBox();
            for (int i = 0; i < 6; i++) {
                due(x.personIs(i, 0), BEYOND);
                due(x.person(), i);
                due(x.personIs(i, 0), 0);
            }
            due(x.person(), FULL);
            due(x.count(2), 6);
            due(x.personIs(6, 0), BEYOND);
        });
        sentence("so many coins of each SORT (0 .. 99; 0 at first; a coin more than 99 is lost)", () -> {
            LastInBox x = box(10, 0, 3, 3, 0);
            person(x);
            for (int sort = 0; sort < 6; sort++) {
                due(x.personIs(0, sort), 0);
            }
            x.give(0, 0, 98);
            x.give(0, 3, 98);
            x.give(0, 5, 1);
            due(x.go(0, 5), 22);
            due(x.personIs(0, 0), 99);
            due(x.personIs(0, 3), 99);
            due(x.give(0, 3, 99), 99);
            due(x.personIs(0, 5), 0);
        });
        sentence("MARKS they got (0 at first)", () -> {
            LastInBox x = box(10, 10, 10, 0);
            person(x);
            person(x, 4);
            due(x.personIs(1, 7), 0);
            x.go(1, 4);
            due(x.personIs(1, 7), 2);
            due(x.personIs(0, 7), 0);
        });
    }

    private static void change() {
        sentence("DUE is its WORTH less THE TICKET.", () -> {
            LastInBox x = box(30, 0, 0, 0, 0);
            gives(x, 2, 1, 0, 0);
            x.ticket(2);
            gives(x, 2, 1, 0, 0, 0);
            x.ticket(5);
            gives(x, 2, 1);
            x.ticket(0);
            gives(x, 2, 0, 0, 0, 0, 0);
            // DUE is 99 at most.
            x.worth(2, 99);
            x.worth(0, 33);
            gives(x, 2, 1, 0, 0, 0);
        });
        sentence("one that is given makes LEFT less by its WORTH, and leaves THE HEAP", () -> {
            LastInBox x = box(50, 1, 5, 11, 5, 0);
            due(x.stranger(3), 5);
            heapIs(x, 30, 50, 50);
        });
        sentence("It ends when LEFT is 0 or below", () -> {
            // 7 is due: just 7, then more than 7.
            gives(box(10, 0, 1, 2), 3, 1, 2, 1);
            gives(box(10, 0, 2, 2), 3, 0, 2, 2);
            gives(box(10, 0, 0, 5), 3, 0, 5);
            gives(box(20, 2, 1, 0), 3, 1, 2, 1);
            gives(box(20, 5, 0), 3, 0, 5);
            gives(box(50, 2, 1, 0), 3, 1, 2, 1);
            gives(box(30, 0, 1, 2), 3, 1, 2, 1);
            gives(box(40, 0, 1, 2), 3, 1, 2, 1);
            gives(box(60, 0, 1, 2), 3, 1, 2, 1);
            // Nothing is due: none is looked at.
            for (int kind = 0; kind < 7; kind++) {
                LastInBox x = box(10 * kind, 0, 0);
                told(x, 0, "1");
                x.ticket(10);
                gives(x, 3, 1);
            }
        });
        sentence("or there is no coin more to look at", () -> {
            gives(box(10, 0, 1), 3, 0, 1, 0);
            gives(box(20, 0, 1), 3, 0, 0, 1);
            gives(box(30, 0, 1), 3, 0, 1, 0);
            gives(box(40, 0, 1), 3, 0, 1, 0);
            gives(box(50, 0, 1), 3, 0, 0, 1);
            gives(box(60, 0, 1), 3, 0, 1, 0);
            for (int kind = 0; kind < 7; kind++) {
                gives(box(10 * kind), 3, 0);
            }
            // All 24 of a full heap.
            LastInBox x = box(10);
            lays(x, 24, 0);
            due(x.change(5, 1), 24);
            due(x.change(5, 27), 0);
            due(x.change(5, 28), NONE);
        });
        sentence("BOX: looks at none.", () -> {
            gives(box(0, 0, 0, 0), 2, 0);
            due(box(0, 0, 0).stranger(2), 0);
        });
        sentence("LAST: from the latest one on, gives each.", () -> gives(box(10, 0, 1, 4, 2), 3, 0, 2, 4));
        sentence("FIRST: from the first one on, gives each.", () -> gives(box(20, 2, 4, 1, 0), 3, 0, 2, 4));
    }

    private static void changeByKind() {
        sentence("GREAT: by WORTH, the greatest first, of like ones the latest first: gives one that is no more than LEFT.", () -> {
            // 7 is due. One of WORTH 7 is no more than LEFT, one of 8 is.
            LastInBox x = box(30, 0, 5, 1);
            x.worth(5, 7);
            gives(x, 3, 1, 5);
            x.worth(5, 8);
            gives(x, 3, 0, 1, 0);
            // SORTS of like WORTH: the latest first.
            x = box(30, 3, 1, 2, 0);
            x.worth(1, 5);
            x.worth(0, 2);
            gives(x, 3, 1, 2, 0);
            x = box(30, 0, 2, 1, 0);
            x.worth(1, 5);
            x.worth(0, 2);
            gives(x, 3, 1, 1, 0);
            // A second one of the greatest no longer fits; the next WORTH does.
            gives(box(30, 0, 0, 2, 1, 2), 3, 1, 2, 1);
            // Each of five WORTHS fits, behind one that doesn't lie there.
            x = box(30, 0, 1, 2, 3, 4);
            x.ticket(0);
            gives(x, 5, 0, 4, 3, 2, 1, 0);
            // The MARKED one is the latest of like ones.
            due(box(30, 12, 2, 0).change(3, 3), 0);
            due(box(30, 2, 12, 0).change(3, 3), 1);
        });
        sentence("KEEP: as LAST, but ends ahead of one that is more than LEFT.", () -> {
            // 7 is due: 5, then 2 is no more than LEFT.
            gives(box(40, 0, 1, 2), 3, 1, 2, 1);
            gives(box(40, 0, 2, 2), 3, 0, 2);
            gives(box(40, 0, 3), 3, 0);
            gives(box(40, 2, 3, 1), 3, 0, 1);
        });
        sentence("ROUND: as FIRST, but passes over one that is more than LEFT.", () -> {
            gives(box(50, 3, 2, 2, 1, 0), 3, 1, 2, 1);
            gives(box(50, 4, 5), 3, 0);
            gives(box(50, 5, 0, 4, 2, 3, 1), 3, 0, 0, 2);
            LastInBox x = box(50, 5);
            x.worth(5, 7);
            gives(x, 3, 1, 5);
        });
        sentence("TOLD: as LAST, but gives one if what GIVES (a TEXT) tells isn't 0, else passes over it.", () -> {
            LastInBox x = box(60, 1, 0, 2);
            told(x, 0, "1-w");
            // -4 and -1 aren't 0, 0 is: the 1 is passed over.
            gives(x, 3, 1, 2, 1);
            told(x, 0, "0");
            gives(x, 3, 0);
            told(x, 0, "0-1");
            gives(x, 3, 0, 2, 0, 1);
            x.lay(5, 0);
            gives(x, 3, 0, 5);
        });
        sentence("IT IS RIGHT, if what was given is DUE.", () -> {
            due(box(10, 2, 1).change(3, 2), 1);
            due(box(10, 2, 0).change(3, 2), 0);
            due(box(10, 3).change(3, 2), 0);
            LastInBox x = box(10, 5);
            x.worth(5, 8);
            due(x.change(3, 2), 0);
            x.worth(5, 7);
            due(x.change(3, 2), 1);
            x.worth(5, 6);
            due(x.change(3, 2), 0);
        });
        sentence("Then the coin that was put in is the latest of THE HEAP", () -> {
            // It isn't among those of its own CHANGE, but of the next one's.
            LastInBox x = new LastInBox();
            x.ticket(0);
            due(x.stranger(3), 0);
            heapIs(x, 30);
            due(x.stranger(3), 10);
            heapIs(x, 30);
        });
        sentence("(if 24 lie there, it falls through, and is lost)", () -> {
            LastInBox x = box(0);
            lays(x, 23, 0);
            due(x.stranger(2), 0);
            due(x.count(0), 24);
            due(x.coin(0), 20);
            due(x.stranger(3), 0);
            due(x.count(0), 24);
            due(x.coin(0), 20);
            due(x.count(3), 2);
            // CHANGE leaves THE HEAP first, which makes room.
            x.box(20);
            due(x.stranger(2), 2);
            due(x.count(0), 23);
            due(x.coin(0), 20);
            due(x.coin(1), 20);
            x.lay(0, 0);
            x.ticket(4);
            due(x.stranger(2), 1);
            due(x.count(0), 24);
            due(x.coin(0), 20);
        });
    }

    private static void goesOfPeople() {
        sentence("A GO of one of PEOPLE with a coin of a SORT out of the PURSE (not MARKED)", () -> {
            LastInBox x = box(10, 13);
            person(x, 3);
            due(x.go(0, 3), 10);
            due(x.personIs(0, 3), 1);
            heapIs(x, 30);
            due(x.go(0, 3), 10);
            heapIs(x, 30);
            due(x.personIs(0, 7), 1);
        });
        sentence("CHANGE comes into the PURSE (MARKS: how many MARKED ones are counted; they are as others then)", () -> {
            LastInBox x = box(10, 10, 2, 12);
            person(x, 4);
            due(x.go(0, 4), 11);
            due(x.personIs(0, 7), 2);
            due(x.personIs(0, 2), 2);
            due(x.personIs(0, 0), 1);
            due(x.personIs(0, 6), 11);
            // The coin leaves the PURSE ahead of that: 99 less 1, and 1.
            x = box(10, 3);
            person(x);
            x.give(0, 3, 99);
            x.go(0, 3);
            due(x.personIs(0, 3), 99);
        });
        sentence("A STRANGER's GO: CHANGE is gone.", () -> {
            LastInBox x = box(10, 10, 2);
            person(x, 3);
            due(x.stranger(3), 6);
            heapIs(x, 30);
            due(x.personIs(0, 6), 10);
            due(x.personIs(0, 7), 0);
        });
    }

    private static void readsTexts() {
        sentence("(bytes, at most 60)", () -> {
            LastInBox x = new LastInBox();
            tape(x, "w".repeat(59));
            due(x.feed('w', 2), FULL);
            due(x.feed('w', 1), 60);
            due(x.feed('w', 1), FULL);
            due(x.text(0), -11);
            due(told(x, 0, "w" + "+1".repeat(29)), 1);
            due(told(x, 0, "wl" + "+1".repeat(29)), -11);
        });
        sentence("T: A { | A }. A: B { & B }.", () -> {
            LastInBox x = new LastInBox();
            due(told(x, 0, "w"), 1);
            due(told(x, 0, "w|w|w&w&w|w"), 1);
            due(told(x, 0, "|w"), -10);
            due(told(x, 0, "w|"), -12);
            due(told(x, 0, "w&|w"), -12);
            due(told(x, 0, "w<l|l<w&w=l|k>m"), 1);
            isValue("1|0&0", 1);
            isValue("0&0|1", 1);
            isValue("(1|0)&0", 0);
        });
        sentence("B: S, or S < S, S = S, S > S.", () -> {
            LastInBox x = new LastInBox();
            due(told(x, 0, "w<l"), 1);
            due(told(x, 0, "w<l<k"), -13);
            due(told(x, 0, "w=l>k"), -13);
            due(told(x, 0, "(w=l)>k"), 1);
            due(told(x, 0, "w<=l"), -12);
            due(told(x, 0, "w+1<l*2"), 1);
            isValue("1+1<1+2", 1);
        });
        sentence("S: P { + P, - P }.", () -> {
            isValue("9-4-3", 2);
            isValue("9-4+3", 8);
            isValue("2+3*4", 14);
            due(told(new LastInBox(), 0, "-1"), -10);
            due(told(new LastInBox(), 0, "1-"), -12);
            due(told(new LastInBox(), 0, "1+-1"), -12);
        });
        sentence("P: Q { * Q, / Q, % Q }.", () -> {
            isValue("100/7/2", 7);
            isValue("100/7*2", 28);
            isValue("7*4%5", 3);
            isValue("17%10*3", 21);
            due(told(new LastInBox(), 0, "2*"), -12);
            due(told(new LastInBox(), 0, "2**2"), -12);
        });
        sentence("a NUMBER of 1 to 4 digits", () -> {
            isValue("0", 0);
            isValue("9999", 9999);
            isValue("0007", 7);
            due(told(new LastInBox(), 0, "12345"), -14);
            due(told(new LastInBox(), 0, "00001"), -14);
            due(told(new LastInBox(), 0, "1w"), -11);
        });
        sentence("a NAME, ! Q, ( T )", () -> {
            isValue("!!5", 1);
            isValue("!0+1", 2);
            isValue("!(0+1)", 0);
            due(told(new LastInBox(), 0, "!"), -11);
            due(told(new LastInBox(), 0, "()"), -11);
            due(told(new LastInBox(), 0, "(w"), -12);
            due(told(new LastInBox(), 0, "w)"), -11);
            due(told(new LastInBox(), 0, "wl"), -11);
            due(told(new LastInBox(), 0, "w(l)"), -11);
        });
        sentence("No blanks.", () -> {
            due(told(new LastInBox(), 0, " w"), -10);
            due(told(new LastInBox(), 0, "w "), -11);
            due(told(new LastInBox(), 0, "w+ l"), -12);
            due(told(new LastInBox(), 0, "w\n"), -11);
        });
        sentence("At most 5 of ! and ( are open at once.", () -> {
            LastInBox x = new LastInBox();
            due(told(x, 0, "(((((w)))))"), 1);
            due(told(x, 0, "((((((w))))))"), -15);
            due(told(x, 0, "!!!!!w"), 1);
            due(told(x, 0, "!!!!!!w"), -15);
            due(told(x, 0, "!(!(!w))"), 1);
            due(told(x, 0, "!(!(!(w)))"), -15);
            due(told(x, 0, "((((!w+!w))))"), 1);
            due(told(x, 0, "((((!w+!(w)))))"), -18);
            // What is closed counts no more.
            due(told(x, 0, "!w+!w+!w+!w+!w+!w+(w)+(w)"), 1);
            due(told(x, 0, "(((((w))))+((((w)))))"), 1);
        });
    }

    private static void worksTextsOut() {
        sentence("Ints that wrap", () -> {
            isValue("9999*9999*9999", (int) (9999L * 9999L * 9999L));
            isValue("9999*9999*22-9999*9999*22-9999*9999*22", (int) (-9999L * 9999L * 22L));
            isValue("9999*9999*21+9999*9999*21", (int) (9999L * 9999L * 42L));
            // 2^31 is the least int, which is below 0, and by -1 itself.
            isValue("2048*1024*1024", MIN);
            isValue("2048*1024*1024<0", 1);
            isValue("2048*1024*1024-1", MAX);
            isValue("2048*1024*1024/(0-1)", MIN);
            isValue("2048*1024*1024%(0-1)", 0);
        });
        sentence("/ cut, % the rest that it leaves, both by 0 are 0", () -> {
            isValue("7/2", 3);
            isValue("(0-7)/2", -3);
            isValue("7%3", 1);
            isValue("(0-7)%3", -1);
            isValue("7%(0-3)", 1);
            isValue("7/0", 0);
            isValue("7%0", 0);
            isValue("0/0", 0);
            isValue("(0-7)/k", 0);
            isValue("(0-7)%k", 0);
        });
        sentence("| & < = > ! are 1 or 0, what is not 0 being true", () -> {
            isValue("7|0", 1);
            isValue("0|(0-7)", 1);
            isValue("0|0", 0);
            isValue("7&(0-7)", 1);
            isValue("7&0", 0);
            isValue("0&7", 0);
            isValue("6<7", 1);
            isValue("7<7", 0);
            isValue("8<7", 0);
            isValue("6=7", 0);
            isValue("7=7", 1);
            isValue("6>7", 0);
            isValue("7>7", 0);
            isValue("8>7", 1);
            isValue("(0-1)<0", 1);
            isValue("!7", 0);
            isValue("!(0-7)", 0);
            isValue("!0", 1);
        });
        sentence("all is worked out", () -> {
            isValue("1|1/0", 1);
            isValue("0&1%0", 0);
            isValue("0*(7/0)+3", 3);
        });
    }

    private static void faults() {
        sentence("the place of the first byte with which no TEXT goes on", () -> {
            LastInBox x = new LastInBox();
            due(told(x, 0, ")w"), -10);
            due(told(x, 0, "w+*l"), -12);
            due(told(x, 0, "w+l)*"), -13);
            due(told(x, 0, "(w+l*k)(("), -17);
            due(told(x, 0, "w\u0000"), -11);
            due(told(x, 0, "w\u00ff"), -11);
            due(told(x, 0, "w+\u00f7"), -12);
            // The last byte of a full TAPE.
            due(told(x, 0, "w+1".concat("+1".repeat(28)).concat("x")), -69);
        });
        sentence("how many there are, if it ends too early", () -> {
            LastInBox x = new LastInBox();
            due(x.text(0), -10);
            due(told(x, 0, "w+"), -12);
            due(told(x, 0, "(w"), -12);
            due(told(x, 0, "!"), -11);
            due(told(x, 0, "(((((w))))"), -20);
            due(told(x, 0, "w+1".concat("+1".repeat(28)).concat("+")), -70);
        });
        sentence("NAMES w WORTH of the coin, l LEFT, k how many were given already, m m", () -> {
            LastInBox x = box(67, 0, 1, 2, 1);
            told(x, 0, "w<3");
            gives(x, 3, 0, 1, 1, 0);
            told(x, 0, "l>2");
            gives(x, 3, 1, 1, 2);
            told(x, 0, "k<1");
            gives(x, 3, 0, 1);
            told(x, 0, "m=7");
            gives(x, 3, 1, 1, 2);
            // k counts those that were given, not those that were looked at; LEFT stays where one is passed over.
            told(x, 0, "w=2&k=0|w=1&k=1");
            gives(x, 3, 0, 1, 0);
            told(x, 0, "w=5&l=7|w=2&l=2");
            gives(x, 3, 1, 2, 1);
            for (String other : new String[] {"s", "t", "x", "W", "n"}) {
                due(told(x, 0, other), -10);
            }
        });
        sentence("without a TEXT 1 if w is no more than l, else 0", () -> {
            gives(box(60, 1, 2, 2), 3, 1, 2, 1);
            gives(box(60, 1, 2, 3), 3, 1, 2, 1);
            LastInBox x = box(60, 5);
            x.worth(5, 7);
            gives(x, 3, 1, 5);
            x.worth(5, 8);
            gives(x, 3, 0);
        });
    }

    /** A box whose DEAR tells whether the LIKES of a 10 are more than those of a 5: nothing comes for either. */
    private static LastInBox likesBox(String text) {
        LastInBox x = box(0);
        person(x, 2, 3);
        due(told(x, 1, text), 1);
        return x;
    }

    private static void likes() {
        sentence("NAMES s SORT, w WORTH, t TAKEN", () -> {
            // The coin that is liked less is put in; of like ones the least SORT, which is that of the 5.
            due(likesBox("0-s").dear(0), 3);
            due(likesBox("s").dear(0), 2);
            due(likesBox("s=3").dear(0), 2);
            due(likesBox("s=2").dear(0), 3);
            due(likesBox("0-w").dear(0), 3);
            due(likesBox("w=5").dear(0), 3);
            due(likesBox("w=10").dear(0), 2);
            due(likesBox("(s=2)*!t").dear(0), 3);
            due(likesBox("(s=2)*t").dear(0), 2);
            for (String other : new String[] {"l", "k", "m", "x", "S"}) {
                due(told(new LastInBox(), 1, other), -10);
            }
        });
        sentence("held within -999 .. 999", () -> {
            due(likesBox("998+(s=2)").dear(0), 3);
            due(likesBox("999+(s=2)").dear(0), 2);
            due(likesBox("998+(s=2)*9").dear(0), 3);
            due(likesBox("(s=2)*1000+(s=3)*999").dear(0), 2);
            due(likesBox("0-998-(s=3)").dear(0), 3);
            due(likesBox("0-999-(s=3)").dear(0), 2);
            due(likesBox("0-(s=3)*9999-(s=2)*999").dear(0), 2);
            due(likesBox("0-(s=3)*999-(s=2)*998").dear(0), 3);
            // Each coin is held, not their sum: 999 and 999 come for the 10, for the 5 nothing.
            LastInBox x = box(40, 0, 0);
            person(x, 2, 3);
            x.worth(0, 3);
            told(x, 1, "(s=0)*9999+(s=3)*1500");
            due(x.dear(0), 3);
        });
        sentence("without a TEXT w", () -> {
            // Nothing comes: the coin of the least WORTH is put in.
            due(likesBox("0-w").dear(0), 3);
            LastInBox x = likesBox("0-w");
            x.untell(1);
            due(x.dear(0), 2);
            x.worth(2, 11);
            due(x.dear(0), 3);
        });
    }

    public static void main(String[] args) {
        errors();
        sortsAndTicket();
        heap();
        boxAndPeople();
        change();
        changeByKind();
        goesOfPeople();
        readsTexts();
        worksTextsOut();
        faults();
        likes();
        ends("TermSentences");
    }
}
