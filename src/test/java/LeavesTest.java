import java.util.ArrayList;
import java.util.Arrays;
import java.util.List;
import java.util.function.Supplier;
import java.util.function.ToLongFunction;

/** What answered calls leave as it was: all that their promise does not say they change. */
public final class LeavesTest {
    private static final int FLIP = 0, TWIN = 5;
    private static final int[] LINEAR = {States.PLAIN, States.TWOFOLD, States.TWO_WEIGHTS, States.ONE_WEIGHT,
        States.TURNING, States.DIVIDED, States.MENDING};

    public static void main(String[] args) {
        someHoldsSomethingOfEachPart();
        callsThatTell();
        callsThatMakeSums();
        callsOfTheRow();
        sumsOfTheRow();
        callsFromSumsAlone();
        callsOfSlips();
        callsOfSquares();
        callsOfDividedOnes();
        callsOfLightestPlaces();
        callsOfAims();
        callsThatMend();
        callsThatTellHowMany();
        sumsAreAsTheyWereMade();
        Due.end();
    }

    private static void answered(int promise, String call, ToLongFunction<SumSmith> made, Part... changed) {
        Due.promise(promise, "what it leaves as it was");
        boolean refused = made.applyAsLong(States.some()) < SumSmith.NONE;
        Due.due(call + " is refused (0)", refused ? 1 : 0, 0);
        changesJust(call, States::some, made, changed);
    }

    private static void changesJust(String call, Supplier<SumSmith> state, ToLongFunction<SumSmith> made,
        Part... changed) {
        for (Part part : Part.values()) {
            int want = Arrays.asList(changed).contains(part) ? 0 : 1;
            Due.due(part.words + " behind " + call + ": as before (1), changed (0)", part.isLeftBy(state, made) ? 1 : 0,
                want);
        }
    }

    // ---- the object that the calls are made on

    private static void holds(Part part, int size, long... want) {
        List<Long> wanted = new ArrayList<>();
        for (long each : want) {
            wanted.add(each);
        }
        while (wanted.size() < size) {
            wanted.add(part == Part.WAYS ? (long) SumSmith.NONE : (long) SumSmith.UNKNOWN);
        }
        Due.due(part.words + " of some() are " + wanted + " (1)", part.look(States.some()).equals(wanted) ? 1 : 0, 1);
    }

    // Its calls come one behind another, so that a call that spoils what an earlier one left is seen here.
    private static void someHoldsSomethingOfEachPart() {
        Due.terms("what some() begins with");
        holds(Part.MORE_SUMS, 36);
        holds(Part.ROW, 65, 1, 0, 1);
        holds(Part.TOLD, 5, 4, 1, 0, 0, 1);
        holds(Part.WAYS, 65, 4);
        holds(Part.FIRST, 18, 0, 1, 0, 0, -2, -2, -2, -2, -2, 1, 0, 0, 0);
        // the polynomial itself: x^16 + x^12 + x^5 + 1
        holds(Part.LIGHTEST, 4, 0, 4, 11, 16);
        holds(Part.TRACES, 7, 0, 0, 0, 1, 1, 1, 1);
        int[] kinds = {0, 1, 2, 2, 3, 4, 5, 6};
        for (int k = 0; k < kinds.length; k++) {
            Due.due("kind(" + k + ")", States.some().kind(k), kinds[k]);
        }
        Due.due("places", States.some().about(3), 3);
    }

    // ---- promises 2 to 10

    private static void callsThatTell() {
        answered(2, "tell(0)", x -> x.tell(0), Part.TOLD);
        answered(2, "tell(65535)", x -> x.tell(65535), Part.TOLD);
        answered(3, "untell()", SumSmith::untell, Part.TOLD);
    }

    private static void callsThatMakeSums() {
        answered(4, "plain(10)", x -> x.plain(10), Part.MORE_SUMS);
        answered(5, "twofold(10)", x -> x.twofold(10), Part.MORE_SUMS);
        answered(6, "weighted(10)", x -> x.weighted(10), Part.MORE_SUMS, Part.TOLD);
        answered(7, "turning(9, 4)", x -> x.turning(9, 4), Part.MORE_SUMS);
        answered(8, "divided(9, 3, ..)", x -> x.divided(9, 3, 0, 0, false, false), Part.MORE_SUMS);
        answered(8, "divided(9, 3, .., mends)", x -> x.divided(9, 3, 5, 6, true, true), Part.MORE_SUMS);
        answered(9, "square(2)", x -> x.square(2), Part.MORE_SUMS, Part.TOLD);
        for (int k = 0; k < States.NO_SUM; k++) {
            int sum = k;
            answered(10, "kind(" + k + ")", x -> x.kind(sum));
        }
    }

    // ---- promises 11 to 15

    private static void callsOfTheRow() {
        answered(11, "put(0)", x -> x.put(0), Part.ROW);
        answered(11, "put(255)", x -> x.put(255), Part.ROW);
        answered(12, "set(2, 9)", x -> x.set(2, 9), Part.ROW);
        answered(12, "set(2, 1), what it was", x -> x.set(2, 1));
        answered(13, "at(2)", x -> x.at(2));
        answered(14, "cut(2)", x -> x.cut(2), Part.ROW);
        answered(14, "cut(0)", x -> x.cut(0), Part.ROW);
        answered(14, "cut(3) of 3", x -> x.cut(3));
    }

    private static SumSmith someWithAByteThatIsNoSign() {
        SumSmith x = States.some();
        x.put(2);
        return x;
    }

    private static void sumsOfTheRow() {
        for (int k = 0; k < States.NO_SUM; k++) {
            int sum = k;
            answered(15, "sum(" + k + ")", x -> x.sum(sum), Part.TRACES);
        }
        Due.promise(15, "-5 NOT: a byte is not below q");
        Due.due("sum(7)", someWithAByteThatIsNoSign().sum(States.SQUARE), SumSmith.NOT);
        changesJust("sum(7), NOT", LeavesTest::someWithAByteThatIsNoSign, x -> x.sum(States.SQUARE), Part.TRACES);
    }

    // ---- promises 16 to 18

    private static void callsFromSumsAlone() {
        for (int k : LINEAR) {
            answered(16, "joined(" + k + ")", x -> x.joined(k, 1, 2, 3, 4));
            answered(17, "other(" + k + ")", x -> x.other(k, 1, 4, 3, 2, 255));
            if (k != States.TWO_WEIGHTS) {
                answered(18, "less(" + k + ")", x -> x.less(k, 1, 4, 255));
            }
        }
    }

    // ---- promises 19 to 21

    private static void callsOfSlips() {
        for (int slip = FLIP; slip <= TWIN; slip++) {
            int which = slip;
            int bits = slip == FLIP ? 2 : 7;
            Due.due("slip " + slip + " passes", States.some().sees(States.PLAIN, which, bits, 5), 0);
            answered(19, "sees, slip " + slip + ", 0", x -> x.sees(States.PLAIN, which, bits, 5), Part.FIRST);
            Due.due("slip " + slip + " is seen", States.some().sees(States.MENDING, which, bits, 5), 1);
            answered(19, "sees, slip " + slip + ", 1", x -> x.sees(States.MENDING, which, bits, 5));
        }
        for (int i = 0; i < 4; i++) {
            int which = i;
            answered(20, "passes(" + i + ", false)", x -> x.passes(which, false));
            answered(20, "passes(" + i + ", true)", x -> x.passes(which, true));
        }
    }

    private static void callsOfSquares() {
        for (int what = 0; what <= 2; what++) {
            int which = what;
            answered(21, "signs(7, " + what + ")", x -> x.signs(States.SQUARE, which));
        }
    }

    // ---- promises 22 to 26, 31

    private static void callsOfDividedOnes() {
        for (int k : new int[] {States.DIVIDED, States.MENDING}) {
            answered(22, "syndrome(" + k + ")", x -> x.syndrome(k, 9, 3));
            for (int bits = 1; bits <= 4; bits++) {
                int size = bits;
                answered(25, "count(" + k + ", " + bits + ", 6)", x -> x.count(k, size, 6));
            }
            answered(26, "period(" + k + ")", x -> x.period(k));
        }
        answered(31, "best(3, 1)", x -> x.best(3, 1));
        answered(31, "best(8, 2)", x -> x.best(8, 2));
    }

    private static SumSmith someWithALightSum() {
        SumSmith x = States.some();
        x.divided(3, 3, 0, 0, false, false);
        return x;
    }

    private static void callsOfLightestPlaces() {
        Due.promise(23, "what it leaves as it was");
        Due.due("weight of period 7", someWithALightSum().weight(8, 1), 2);
        changesJust("weight, 2", LeavesTest::someWithALightSum, x -> x.weight(8, 1), Part.LIGHTEST);
        answered(23, "weight, NONE", x -> x.weight(States.MENDING, 6));
        answered(23, "weight, the same again", x -> x.weight(States.DIVIDED, 6));
        for (int i = 0; i < 4; i++) {
            int which = i;
            answered(24, "lightest(" + i + ")", x -> x.lightest(which));
        }
    }

    // ---- promises 27 to 30

    private static void callsOfAims() {
        answered(27, "free(5)", x -> x.free(5), Part.PLACES);
        answered(28, "bind()", SumSmith::bind, Part.PLACES);
        long sum = States.some().sum(States.MENDING);
        answered(29, "aim at its own sum", x -> x.aim(States.MENDING, sum), Part.WAYS);
        answered(29, "aim, no way", x -> x.aim(States.DIVIDED, 0), Part.WAYS);
        answered(30, "way(0)", x -> x.way(0));
        answered(30, "way(1), NONE", x -> x.way(1));
    }

    // ---- promises 32, 33

    private static void callsThatMend() {
        long sum = States.some().sum(States.MENDING);
        long wrong = States.some().syndrome(States.MENDING, 20, 3);
        answered(32, "mend, 0", x -> x.mend(States.MENDING, sum));
        answered(32, "mend, place 20", x -> x.mend(States.MENDING, sum ^ wrong), Part.ROW);
        answered(32, "mend, bit 30 of s", x -> x.mend(States.MENDING, sum ^ 1L << 30));
        answered(32, "mend, NONE", x -> x.mend(States.MENDING, sum ^ 3));
        answered(33, "reach(6)", x -> x.reach(States.MENDING));
    }

    // ---- promises 34, 35

    private static void callsThatTellHowMany() {
        for (int kind = 0; kind < 7; kind++) {
            int which = kind;
            answered(34, "trace(" + kind + ")", x -> x.trace(which));
        }
        for (int what = 0; what < 5; what++) {
            int which = what;
            answered(35, "about(" + what + ")", x -> x.about(which));
        }
    }

    // ---- all of them

    /** A sum is what it was made, whatever is told, made and asked for later. */
    private static void sumsAreAsTheyWereMade() {
        Due.terms("SUMS are numbered from 0 as they are made (and stay)");
        SumSmith x = States.some();
        for (int i = 0; i < 5; i++) {
            x.tell(60000 + i);
        }
        x.untell();
        States.tell(x, 9, 8, 7);
        x.weighted(11);
        States.tell(x, 1, 1, 0, 0);
        x.square(2);
        x.plain(2);
        x.twofold(2);
        x.turning(32, 1);
        x.divided(3, 1, 0, 0, true, true);
        x.best(5, 2);
        x.cut(0);
        boolean alike = Part.FIRST_SUMS.look(x).equals(Part.FIRST_SUMS.look(States.eightSums()));
        Due.due("the first eight are as they were made (1)", alike ? 1 : 0, 1);
    }
}
