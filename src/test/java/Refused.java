import java.util.function.Supplier;
import java.util.function.ToLongFunction;

/** Calls that change nothing: their answer, and that all else answers as if they had never been made. */
final class Refused {
    private Refused() {
    }

    static void due(String call, Supplier<SumSmith> state, ToLongFunction<SumSmith> made, long want) {
        Due.due(call, made.applyAsLong(state.get()), want);
        changesNothing(call, state, made);
    }

    static void changesNothing(String call, Supplier<SumSmith> state, ToLongFunction<SumSmith> made) {
        for (Part part : Part.values()) {
            Due.due(part.words + " behind " + call + ": as before (1)", part.isLeftBy(state, made) ? 1 : 0, 1);
        }
    }
}
