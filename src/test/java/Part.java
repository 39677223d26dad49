import java.util.ArrayList;
import java.util.List;
import java.util.function.Supplier;
import java.util.function.ToLongFunction;

/**
 * What an object holds, part by part. A part is looked at on an object of its own, and by as few calls as can be:
 * most looks change what they look at, and a fault in one call shall not hide what another one did.
 */
enum Part {
    FIRST_SUMS("the first eight sums"),
    MORE_SUMS("further sums"),
    ROW("the row"),
    TOLD("what is told"),
    PLACES("the places for aim()"),
    WAYS("the ways"),
    FIRST("the first that passes"),
    LIGHTEST("the lightest places"),
    TRACES("how often sums were asked for");

    final String words;

    Part(String words) {
        this.words = words;
    }

    List<Long> look(SumSmith x) {
        switch (this) {
            case FIRST_SUMS:
                return sums(x, 0, 8);
            case MORE_SUMS:
                return sums(x, 8, 17);
            case ROW:
                return seen(65, x::at);
            case TOLD:
                return told(x);
            case PLACES:
                return places(x);
            case WAYS:
                return seen(65, x::way);
            case FIRST:
                return first(x);
            case LIGHTEST:
                return seen(4, x::lightest);
            default:
                return seen(7, x::trace);
        }
    }

    /** Whether this part is the same, whether or not the call was made. */
    boolean isLeftBy(Supplier<SumSmith> state, ToLongFunction<SumSmith> made) {
        SumSmith x = state.get();
        made.applyAsLong(x);
        return look(x).equals(look(state.get()));
    }

    private static List<Long> seen(int many, ToLongFunction<Integer> read) {
        List<Long> seen = new ArrayList<>();
        for (int i = 0; i < many; i++) {
            seen.add(read.applyAsLong(i));
        }
        return seen;
    }

    private static List<Long> sums(SumSmith x, int from, int to) {
        List<Long> seen = new ArrayList<>();
        for (int k = from; k < to; k++) {
            seen.add((long) x.kind(k));
            seen.add(States.sumOf(x, k));
            seen.add(States.sumOf(x, k, 1));
            seen.add(States.sumOf(x, k, 0, 1, 1));
        }
        return seen;
    }

    /** Of a sum of 32 bits no two places are alike, so the way to a place's syndrome says when that one was told. */
    private static List<Long> places(SumSmith x) {
        List<Long> seen = new ArrayList<>();
        seen.add((long) x.about(3));
        long sum = States.sumOf(x, States.MENDING, 0, 0, 0);
        for (int place = 0; place < 24; place++) {
            seen.add((long) x.aim(States.MENDING, sum ^ x.syndrome(States.MENDING, place, 3)));
            seen.add((long) x.way(0));
        }
        return seen;
    }

    private static List<Long> first(SumSmith x) {
        List<Long> seen = seen(9, i -> x.passes(i, false));
        seen.addAll(seen(9, i -> x.passes(i, true)));
        return seen;
    }

    /** What is told can be read from a sum that is made of it: from its weights, or, where they are many, its cells. */
    private static List<Long> told(SumSmith x) {
        List<Long> seen = new ArrayList<>();
        int many = x.about(2);
        seen.add((long) many);
        seen.addAll(many <= 12 ? toldAsWeights(x, many) : toldAsCells(x));
        return seen;
    }

    private static List<Long> toldAsWeights(SumSmith x, int weights) {
        int k = x.weighted(65536);
        return seen(weights, i -> sumOfOneByte(x, k, i));
    }

    private static long sumOfOneByte(SumSmith x, int k, int place) {
        int[] bytes = new int[place + 1];
        bytes[place] = 1;
        return States.sumOf(x, k, bytes);
    }

    private static List<Long> toldAsCells(SumSmith x) {
        int k = x.square(4);
        return seen(16, i -> States.sumOf(x, k, i / 4, i % 4));
    }
}
