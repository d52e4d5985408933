import java.util.List;
import java.util.function.BiFunction;
import java.util.function.ToIntFunction;

/** Two objects with the same calls behind them; only one of them is then asked for what is refused. */
final class Twins {
    private static final List<BiFunction<TroubleMemory, int[], List<String>>> LOOKS =
            List.of(Look::upwards, Look::downwards, Look::restarted);

    private Twins() {
    }

    /** The call answers so in each of the states, and changes nothing. */
    static void refuse(int want, State[] states, String what, ToIntFunction<TroubleMemory> call) {
        for (State state : states) {
            refuse(want, state, what, call);
        }
    }

    static void refuse(int want, State state, String what, ToIntFunction<TroubleMemory> call) {
        String where = what + " in the state " + state;
        for (BiFunction<TroubleMemory, int[], List<String>> look : LOOKS) {
            TroubleMemory asked = state.make();
            Edges.due(want, call.applyAsInt(asked), where);
            Edges.same(look.apply(state.make(), state.watched()), look.apply(asked, state.watched()),
                    "behind " + where);
        }
    }
}
