import java.util.ArrayList;
import java.util.List;
import java.util.function.Consumer;
import java.util.function.ToLongFunction;

/**
 * "One that answers an ERROR changes nothing but what told() tells": for each act and each of its ERRORS two boxes
 * are made ready in the same way, one is asked more than the other, and then all that can be seen of them has to
 * be alike.
 */
public final class RefusedCalls extends Checks {
    private static final long LOW = -1000000000L;
    private static final int MIN = Integer.MIN_VALUE;
    private static final int MAX = Integer.MAX_VALUE;
    private static final Consumer<LastInBox> AS_IT_IS = x -> { };

    /** Something of all that a box can keep. */
    private static LastInBox furnished() {
        LastInBox x = box(50, 13, 4, 0, 11, 2, 0);
        x.worth(4, 21);
        person(x, 3, 3, 4);
        x.give(0, 1, 98);
        x.go(0, 3);
        person(x, 1, 2);
        person(x);
        told(x, 0, "k<2&w<m+9");
        told(x, 1, "s*3-w+t");
        tape(x, "s+w*");
        row(x, 0, 8, 2, 3, 5);
        row(x, 1, 16, 0, 4);
        row(x, 2, 32, 3, 2, 2, 1, 0);
        x.tell(3);
        x.tell(0);
        x.seed(4711);
        x.voice(1, 5);
        return x;
    }

    /** All that can be seen of a box, and what it keeps behind that; the box is of no use any more. */
    private static List<Long> seen(LastInBox x) {
        List<Long> all = new ArrayList<>();
        counts(x, all);
        for (int person = 0; person < x.count(2); person++) {
            for (int what = 0; what < 8; what++) {
                all.add((long) x.personIs(person, what));
            }
            all.add((long) x.dear(person));
        }
        for (int i = 0; i < x.count(7); i++) {
            all.add((long) x.body(i));
        }
        changes(x, all);
        all.add((long) x.check());
        x.feed('1', 1);
        all.add((long) x.text(0));
        x.ticket(3);
        x.box(60);
        changes(x, all);
        for (int sheet = 0; sheet < 4; sheet++) {
            for (int v = 0; v < 2; v++) {
                x.empty();
                all.add((long) x.lays(sheet));
                counts(x, all);
                // 256 is 0 in 8 bits, 65536 in 16, too.
                all.add((long) x.put(sheet, 0, v == 0 ? 256 : 65536));
                all.add((long) x.put(sheet, 1, v == 0 ? 65536 : 256));
            }
        }
        all.add((long) x.draws(5));
        all.add((long) x.restore());
        counts(x, all);
        all.add((long) x.image());
        return all;
    }

    private static void counts(LastInBox x, List<Long> all) {
        for (int what = 0; what <= 16; what++) {
            all.add((long) x.count(what));
        }
        for (int i = 0; i < x.count(0); i++) {
            all.add((long) x.coin(i));
        }
    }

    private static void changes(LastInBox x, List<Long> all) {
        for (int sort = 0; sort < 6; sort++) {
            all.add((long) x.change(sort, 0));
            all.add((long) x.change(sort, 1));
        }
    }

    /** Whether a call leaves all as it was, but that told(k) tells one more (k 0: none). */
    private static void leaves(int k, Consumer<LastInBox> ready, ToLongFunction<LastInBox> call) {
        LastInBox asked = furnished();
        LastInBox other = furnished();
        ready.accept(asked);
        ready.accept(other);
        long answer = call.applyAsLong(asked);
        due(k == 0 ? Math.max(answer, LOW) : answer, k == 0 ? answer : LOW - k);
        for (int i = 1; i <= 6; i++) {
            due(asked.told(i), other.told(i) + (i == k ? 1 : 0));
        }
        List<Long> is = seen(asked);
        List<Long> was = seen(other);
        due(is.size(), was.size());
        for (int i = 0; i < Math.min(is.size(), was.size()); i++) {
            due(is.get(i), was.get(i));
        }
    }

    private static void refused(long error, Consumer<LastInBox> ready, ToLongFunction<LastInBox> call) {
        leaves((int) (LOW - error), ready, call);
    }

    private static void refused(long error, ToLongFunction<LastInBox> call) {
        refused(error, AS_IT_IS, call);
    }

    private static void beyond(List<ToLongFunction<LastInBox>> calls) {
        for (ToLongFunction<LastInBox> call : calls) {
            refused(BEYOND, call);
        }
    }

    /** What would be changes nothing, where it is answered, either. */
    private static void answered(Consumer<LastInBox> ready, ToLongFunction<LastInBox> call) {
        leaves(0, ready, call);
    }

    private static void coinsAndPeople() {
        sentence("Promise 2: worth", () ->
            beyond(List.of(x -> x.worth(-1, 5), x -> x.worth(6, 5), x -> x.worth(0, 0), x -> x.worth(0, 100))));
        sentence("Promise 3: ticket", () ->
            beyond(List.of(x -> x.ticket(-1), x -> x.ticket(100), x -> x.ticket(MIN), x -> x.ticket(MAX))));
        sentence("Promise 4: box", () ->
            beyond(List.of(x -> x.box(-1), x -> x.box(70), x -> x.box(MIN), x -> x.box(MAX))));
        sentence("Promise 5: as", () -> {
            beyond(List.of(x -> x.as(-1), x -> x.as(7)));
            refused(KIND, x -> x.as(6));
            answered(AS_IT_IS, x -> x.as(2));
        });
        sentence("Promise 6: lay", () -> {
            beyond(List.of(x -> x.lay(-1, 0), x -> x.lay(6, 0), x -> x.lay(0, -1), x -> x.lay(0, 2)));
            refused(FULL, x -> lays(x, 24, 0), x -> x.lay(1, 1));
        });
        sentence("Promise 8: coin", () -> {
            beyond(List.of(x -> x.coin(-1), x -> x.coin(x.count(0))));
            answered(AS_IT_IS, x -> x.coin(0));
        });
        sentence("Promise 9: person", () -> refused(FULL, x -> {
            for (int i = 0; i < 3; i++) {
                x.person();
            }
        }, x -> x.person()));
        sentence("Promise 10: personIs", () ->
            beyond(List.of(x -> x.personIs(-1, 0), x -> x.personIs(3, 0), x -> x.personIs(0, -1), x -> x.personIs(0, 8))));
        sentence("Promise 11: give", () -> {
            beyond(List.of(x -> x.give(-1, 0, 1), x -> x.give(3, 0, 1), x -> x.give(0, -1, 1), x -> x.give(0, 6, 1)));
            beyond(List.of(x -> x.give(0, 0, -1), x -> x.give(0, 0, 100)));
        });
    }

    private static void textsAndGoes() {
        sentence("Promise 12: feed", () -> {
            beyond(List.of(x -> x.feed('w', 0), x -> x.feed('w', 9), x -> x.feed(-1, MIN), x -> x.feed(-1, MAX)));
            // Not one byte comes where one has no room.
            refused(FULL, x -> tape(x, "w".repeat(50)), x -> x.feed('w', 7));
        });
        sentence("Promise 13: text", () -> beyond(List.of(x -> x.text(-1), x -> x.text(2), x -> x.text(MIN))));
        sentence("Promise 14: untell", () -> beyond(List.of(x -> x.untell(-1), x -> x.untell(2), x -> x.untell(MAX))));
        sentence("Promise 15: go", () -> {
            beyond(List.of(x -> x.go(-1, 3), x -> x.go(3, 3), x -> x.go(0, -1), x -> x.go(0, 6)));
            refused(STATE, x -> x.go(0, 5));
            refused(STATE, x -> x.go(0, 1));
            refused(STATE, x -> x.ticket(11), x -> x.go(0, 3));
        });
        sentence("Promise 16: stranger", () -> {
            beyond(List.of(x -> x.stranger(-1), x -> x.stranger(6)));
            refused(STATE, x -> x.stranger(1));
        });
        sentence("Promise 17: draws", () -> beyond(List.of(x -> x.draws(0), x -> x.draws(61), x -> x.draws(MIN))));
    }

    private static void wouldBeOfOne() {
        sentence("Promise 19: change", () -> {
            beyond(List.of(x -> x.change(-1, 0), x -> x.change(6, 0), x -> x.change(3, -1)));
            refused(STATE, x -> x.change(1, 0));
            refused(NONE, x -> x.change(3, 28));
            answered(AS_IT_IS, x -> x.change(5, 0));
            answered(AS_IT_IS, x -> x.change(5, 4));
        });
        sentence("Promise 20: dear", () -> {
            beyond(List.of(x -> x.dear(-1), x -> x.dear(3)));
            refused(NONE, x -> x.dear(2));
            answered(AS_IT_IS, x -> x.dear(0));
        });
        sentence("Promise 21: get", () -> {
            beyond(List.of(x -> x.get(-1, 0, 1), x -> x.get(3, 0, 1), x -> x.get(0, 6, 1), x -> x.get(0, 0, 5)));
            refused(NONE, x -> x.get(0, 5, 4));
            answered(AS_IT_IS, x -> x.get(0, 2, 4));
        });
        sentence("Promise 24: wrong", () -> {
            beyond(List.of(x -> x.wrong(0, 0), x -> x.wrong(5, 0), x -> x.wrong(1, 2)));
            refused(STATE, x -> x.ticket(51), x -> x.wrong(4, 0));
            answered(AS_IT_IS, x -> x.wrong(4, 1));
        });
        sentence("Promise 25: again", () -> {
            beyond(List.of(x -> x.again(-1), x -> x.again(6)));
            refused(STATE, x -> x.again(0));
            refused(NONE, x -> x.empty(), x -> x.again(3));
            answered(x -> x.box(20), x -> x.again(3));
        });
    }

    private static void wouldBeOfRows() {
        sentence("Promise 22: order", () -> {
            beyond(List.of(x -> x.order(-1, 0), x -> x.order(4, 0), x -> x.order(0, -2)));
            refused(NONE, x -> x.order(3, 0));
            refused(NONE, x -> x.order(0, 6));
            answered(x -> x.put(0, 0, 3), x -> x.order(0, -1));
            answered(x -> x.put(0, 0, 3), x -> x.order(0, 0));
        });
        sentence("Promise 23: dawn", () -> {
            beyond(List.of(x -> x.dawn(-1, 0), x -> x.dawn(4, 0), x -> x.dawn(0, 6)));
            refused(NONE, x -> x.dawn(3, 0));
            refused(NONE, x -> x.put(0, 0, 4), x -> x.dawn(0, 5));
            answered(x -> {
                x.put(0, 0, 3);
                x.put(0, 1, 0);
            }, x -> x.dawn(0, 0));
        });
        sentence("Promise 26: must", () -> {
            beyond(List.of(x -> x.must(-1, 3), x -> x.must(4, 3), x -> x.must(0, 6)));
            refused(NONE, x -> x.must(3, 3));
            refused(STATE, x -> x.must(0, 0));
            answered(AS_IT_IS, x -> x.must(0, 3));
        });
        sentence("Promise 27: tally", () -> {
            beyond(List.of(x -> x.tally(-1, 0), x -> x.tally(4, 0), x -> x.tally(0, 2)));
            refused(NONE, x -> x.tally(3, 0));
            refused(NONE, x -> x.tally(2, 0));
            refused(NONE, x -> x.tally(0, 1));
            answered(AS_IT_IS, x -> x.tally(1, 0));
        });
    }

    private static void voicesAndSheets() {
        sentence("Promise 28: voice", () -> {
            beyond(List.of(x -> x.voice(-1, 0), x -> x.voice(4, 0)));
            // THE TRACE is that of the latest voice(), one that is PARTED, too: here the one ahead had the same.
            refused(PARTED, x -> {
                x.box(51);
                x.voice(3, 8);
            }, x -> x.voice(3, 7));
        });
        sentence("Promise 29: body", () -> {
            refused(NONE, x -> x.body(-1));
            refused(NONE, x -> x.body(30));
            answered(AS_IT_IS, x -> x.body(0));
        });
        sentence("Promise 30: sheet", () -> {
            beyond(List.of(x -> x.sheet(-1, 8, 1), x -> x.sheet(4, 8, 1), x -> x.sheet(0, 9, 1), x -> x.sheet(0, 16, 25)));
            refused(STATE, x -> x.sheet(0, 16, -1));
        });
        sentence("Promise 31: put", () -> {
            beyond(List.of(x -> x.put(-1, 0, 1), x -> x.put(4, 0, 1), x -> x.put(0, 3, 1), x -> x.put(0, -1, 1)));
            refused(NONE, x -> x.put(3, 0, 1));
        });
        sentence("Promise 32: move", () -> {
            beyond(List.of(x -> x.move(4, 0, 0, 0, 1), x -> x.move(0, 0, 4, 0, 1), x -> x.move(0, 1, 0, 0, 3),
                x -> x.move(0, 0, 0, 1, 3), x -> x.move(0, 0, 0, 1, -1), x -> x.move(0, -1, 0, 1, 1)));
            refused(NONE, x -> x.move(3, 0, 0, 0, 1));
            refused(NONE, x -> x.move(0, 0, 3, 0, 1));
            refused(KIND, x -> x.move(0, 0, 1, 0, 1));
        });
        sentence("Promise 33: lays", () -> {
            beyond(List.of(x -> x.lays(-1), x -> x.lays(4)));
            refused(NONE, x -> x.lays(3));
        });
        sentence("Promise 35: restore", () -> refused(NONE, x -> x.restore()));
        sentence("Promise 36: tell", () -> refused(FULL, x -> {
            for (int i = 0; i < 22; i++) {
                x.tell(0);
            }
        }, x -> x.tell(0)));
        sentence("Promise 38: count", () -> beyond(List.of(x -> x.count(-1), x -> x.count(17), x -> x.count(MIN))));
        sentence("Promise 39: told", () -> {
            beyond(List.of(x -> x.told(0), x -> x.told(7), x -> x.told(MIN)));
            answered(AS_IT_IS, x -> x.told(1));
        });
    }

    /** Calls with two faults: the one that is asked first is told. */
    private static void orders() {
        sentence("Each act tells its ERRORS in the order in which they are asked", () -> {
            LastInBox x = furnished();
            lays(x, 24, 0);
            due(x.lay(6, 0), BEYOND);
            due(x.lay(0, 2), BEYOND);
            due(x.as(9), BEYOND);
            tape(x, "w".repeat(56));
            due(x.feed('w', 9), BEYOND);
            due(x.feed('w', 8), FULL);
            due(x.go(3, 1), BEYOND);
            due(x.go(0, 9), BEYOND);
            due(x.stranger(9), BEYOND);
            due(x.change(0, -1), BEYOND);
            due(x.change(6, -1), BEYOND);
            due(x.change(0, 99), STATE);
            due(x.get(0, 5, 5), BEYOND);
            due(x.get(0, 6, 0), BEYOND);
            due(x.order(3, -2), BEYOND);
            due(x.order(4, 99), BEYOND);
            due(x.dawn(3, 6), BEYOND);
            due(x.must(3, 9), BEYOND);
            due(x.must(3, 0), NONE);
            due(x.tally(3, 2), BEYOND);
            due(x.tally(2, 2), BEYOND);
            x.ticket(99);
            due(x.wrong(5, 0), BEYOND);
            due(x.wrong(1, 2), BEYOND);
            due(x.again(6), BEYOND);
            due(x.must(0, 6), BEYOND);
            x.box(1);
            due(x.voice(4, 0), BEYOND);
            due(x.sheet(4, 8, -1), BEYOND);
            due(x.sheet(0, 5, -1), BEYOND);
            due(x.sheet(0, 8, MIN), STATE);
            due(x.put(4, 99, 0), BEYOND);
            due(x.put(3, 99, 0), NONE);
            due(x.move(4, 0, 3, 0, 1), BEYOND);
            due(x.move(3, 0, 4, 0, 1), BEYOND);
            due(x.move(3, -1, 0, 0, 1), NONE);
            due(x.move(0, -1, 3, 0, 1), NONE);
            due(x.move(0, -1, 1, 0, 99), KIND);
        });
    }

    public static void main(String[] args) {
        coinsAndPeople();
        textsAndGoes();
        wouldBeOfOne();
        wouldBeOfRows();
        voicesAndSheets();
        orders();
        ends("RefusedCalls");
    }
}
