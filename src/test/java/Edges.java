import java.util.function.Consumer;
import java.util.function.Supplier;
import java.util.function.ToIntFunction;

/** Tests of one call on objects that are made anew for it. */
final class Edges {
    private Edges() {
    }

    /** A call whose one argument is looked at. */
    interface Asked {
        int of(IndentRules x, int v);
    }

    /** The call is refused so, and the object is like one that was not asked. */
    static void refused(String call, Supplier<IndentRules> state, ToIntFunction<IndentRules> asked, int refusal) {
        IndentRules x = state.get();
        Due.due(call, asked.applyAsInt(x), refusal);
        unchanged(call, x, state);
    }

    /** Whatever the call answers, the object is like one that was not asked. */
    static void changesNothing(String call, Supplier<IndentRules> state, Consumer<IndentRules> asked) {
        IndentRules x = state.get();
        asked.accept(x);
        unchanged(call, x, state);
    }

    private static void unchanged(String call, IndentRules x, Supplier<IndentRules> state) {
        Due.check(call + " changes nothing", Probe.answers(x).equals(Probe.answers(state.get())));
    }

    /** From least on each number is taken, and answered as told here; those beside them are refused. */
    static void bounds(String call, Supplier<IndentRules> state, Asked asked, int refusal, int least, int... want) {
        for (int i = 0; i < want.length; i++) {
            Due.due(call + " of " + (least + i), asked.of(state.get(), least + i), want[i]);
        }
        refusedBeside(call, state, asked, refusal, least, least + want.length - 1);
    }

    /** The next numbers on both sides, the farthest ones, and some that a narrower number would take for a good one. */
    static void refusedBeside(String call, Supplier<IndentRules> state, Asked asked, int refusal, int least, int most) {
        int[] beside = {least - 1, most + 1, Integer.MIN_VALUE, Integer.MAX_VALUE, Integer.MIN_VALUE + least, least + 256,
            least - 256, least + 65536, least - 65536};
        for (int v : beside) {
            refused(call + " of " + v, state, x -> asked.of(x, v), refusal);
        }
    }
}
