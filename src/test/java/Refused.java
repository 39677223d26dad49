import java.util.ArrayList;
import java.util.List;
import java.util.function.Function;
import java.util.function.Supplier;
import java.util.function.ToLongFunction;

/** Calls that change nothing: their answer, and that all else answers as if they had never been made. */
final class Refused {
    private Refused() {
    }

    static void due(String call, Supplier<SumSmith> state, ToLongFunction<SumSmith> made, long want) {
        Due.due(call, made.applyAsLong(state.get()), want);
        changesNothing(call, state, made);
    }

    // Each look begins with objects of its own, since most looks change what they look at.
    static void changesNothing(String call, Supplier<SumSmith> state, ToLongFunction<SumSmith> made) {
        same(call, "what can be read", state, made, Refused::readings);
        same(call, "the sums", state, made, Refused::sums);
        same(call, "the places", state, made, Refused::places);
        same(call, "what is told", state, made, Refused::told);
    }

    private static void same(String call, String what, Supplier<SumSmith> state, ToLongFunction<SumSmith> made,
        Function<SumSmith, List<Long>> look) {
        SumSmith x = state.get();
        made.applyAsLong(x);
        boolean alike = look.apply(x).equals(look.apply(state.get()));
        Due.due(what + " behind " + call + " is as before (1)", alike ? 1 : 0, 1);
    }

    private static List<Long> readings(SumSmith x) {
        List<Long> seen = new ArrayList<>();
        for (int what = 0; what < 5; what++) {
            seen.add((long) x.about(what));
        }
        for (int kind = 0; kind < 7; kind++) {
            seen.add((long) x.trace(kind));
        }
        for (int k = 0; k < 17; k++) {
            seen.add((long) x.kind(k));
        }
        for (int i = 0; i < 64; i++) {
            seen.add((long) x.at(i));
            seen.add((long) x.way(i));
        }
        for (int i = 0; i < 8; i++) {
            seen.add((long) x.passes(i, false));
            seen.add((long) x.passes(i, true));
        }
        for (int i = 0; i < 4; i++) {
            seen.add((long) x.lightest(i));
        }
        return seen;
    }

    private static List<Long> sums(SumSmith x) {
        List<Long> seen = new ArrayList<>();
        for (int k = 0; k < 16; k++) {
            seen.add(x.sum(k));
        }
        return seen;
    }

    /** Of a sum of 32 bits no two places are alike, so the way to a place's syndrome says when that one was told. */
    private static List<Long> places(SumSmith x) {
        List<Long> seen = new ArrayList<>();
        int k = States.MENDING;
        for (int place = 0; place < 24; place++) {
            long wished = x.sum(k) ^ x.syndrome(k, place, x.about(1));
            seen.add((long) x.aim(k, wished));
            seen.add((long) x.way(0));
        }
        return seen;
    }

    /** What is told can be read from a sum that is made of it: from its weights, or, where they are many, its cells. */
    private static List<Long> told(SumSmith x) {
        return x.about(2) <= 12 ? toldAsWeights(x) : toldAsCells(x);
    }

    private static List<Long> toldAsWeights(SumSmith x) {
        List<Long> seen = new ArrayList<>();
        int weights = x.about(2);
        int k = x.weighted(65536);
        for (int i = 0; i < weights; i++) {
            seen.add(sumOfOneByte(x, k, i));
        }
        return seen;
    }

    private static List<Long> toldAsCells(SumSmith x) {
        List<Long> seen = new ArrayList<>();
        int k = x.square(4);
        for (int a = 0; a < 4; a++) {
            for (int b = 0; b < 4; b++) {
                seen.add(States.sumOf(x, k, a, b));
            }
        }
        return seen;
    }

    private static long sumOfOneByte(SumSmith x, int k, int place) {
        int[] bytes = new int[place + 1];
        bytes[place] = 1;
        return States.sumOf(x, k, bytes);
    }
}
