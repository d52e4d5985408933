/** Edges of all promises: each refusal of each call that changes something, with a look at the state behind it. */
public final class EdgeRefusalsTest {
    private static final int LEAST = Integer.MIN_VALUE;
    private static final int MOST = Integer.MAX_VALUE;

    public static void main(String[] args) {
        Edges.run(EdgeRefusalsTest.class);
    }

    /** The states that are on and have room for a code. */
    private static final State[] WITH_ROOM = {State.NEW, State.NO_ROOM, State.BUSY, State.CLEARING_OFF};
    /** The states that are on, and in which clearing is, too. */
    private static final State[] CLEARING_ON = {State.NEW, State.NO_ROOM, State.BUSY, State.FULL};
    /** The states that are on and have two codes or more. */
    private static final State[] WITH_CODES = {State.NO_ROOM, State.BUSY, State.CLEARING_OFF, State.FULL};
    private static final State[] CUT_WITH_CODES =
            {State.NO_ROOM_CUT, State.BUSY_CUT, State.CLEARING_OFF_CUT, State.FULL_CUT};

    private static int[] unknownCodes(State state) {
        int[] known = state.watched();
        int none = known[known.length - 1];
        return new int[] {LEAST, -1, none, none + 1, none + 32, MOST};
    }

    @Holds(Sentence.CODE_NONE)
    static void codeOfAWrongNumber() {
        int[] priorities = {LEAST, -1, 0, 256, MOST};
        for (int priority : priorities) {
            Twins.refuse(-2, State.ON, "code(" + priority + ", 127, 127)", x -> x.code(priority, 127, 127));
        }
        int[] steps = {LEAST, -1, 0, 128, MOST};
        for (int step : steps) {
            Twins.refuse(-2, State.ON, "code(1, " + step + ", 127)", x -> x.code(1, step, 127));
            Twins.refuse(-2, State.ON, "code(1, 127, " + step + ")", x -> x.code(1, 127, step));
        }
    }

    @Holds(Sentence.CODE_CUT)
    static void codeWhileCut() {
        Twins.refuse(-3, State.CUT, "code(1, 1, 1)", x -> x.code(1, 1, 1));
        Twins.refuse(-3, State.CUT, "code(255, 127, 127)", x -> x.code(255, 127, 127));
    }

    @Holds(Sentence.CODE_FULL)
    static void codeBehind200() {
        Twins.refuse(-4, State.FULL, "code(1, 1, 1)", x -> x.code(1, 1, 1));
        Twins.refuse(-4, State.FULL, "code(255, 127, 127)", x -> x.code(255, 127, 127));
        TroubleMemory x = new TroubleMemory(0);
        for (int n = 1; n <= 199; n++) {
            x.code(255, 127, 127);
        }
        Edges.due(200, x.code(255, 127, 127), "the last that there is room for");
        x.clear(0);
        Edges.due(-4, x.code(255, 127, 127), "clearing makes no room for codes");
    }

    @Holds(Sentence.EVENT_UNKNOWN)
    static void eventOfNoCode() {
        for (State state : State.ON) {
            for (int n : unknownCodes(state)) {
                Twins.refuse(-1, state, "event(" + n + ", true)", x -> x.event(n, true));
                Twins.refuse(-1, state, "event(" + n + ", false)", x -> x.event(n, false));
            }
            Twins.refuse(-1, state, "event(0, true)", x -> x.event(0, true));
        }
    }

    @Holds(Sentence.EVENT_CUT)
    static void eventWhileCut() {
        for (State state : CUT_WITH_CODES) {
            int[] codes = state.watched();
            for (int k = 0; k < codes.length - 1; k++) {
                int n = codes[k];
                Twins.refuse(-3, state, "event(" + n + ", true)", x -> x.event(n, true));
                Twins.refuse(-3, state, "event(" + n + ", false)", x -> x.event(n, false));
            }
        }
    }

    @Holds(Sentence.CYCLE_CUT)
    static void cycleWhileCut() {
        Twins.refuse(-3, State.CUT, "cycle(true)", x -> x.cycle(true));
        Twins.refuse(-3, State.CUT, "cycle(false)", x -> x.cycle(false));
    }

    @Holds(Sentence.CLEAR_NONE)
    static void clearNoGroup() {
        int[] groups = {LEAST, -8, -1, 9, 10, MOST};
        for (int group : groups) {
            Twins.refuse(-2, CLEARING_ON, "clear(" + group + ")", x -> x.clear(group));
        }
    }

    @Holds(Sentence.CLEAR_OFF)
    static void clearWhileCondition31IsOff() {
        for (int group = 0; group <= 8; group++) {
            int asked = group;
            Twins.refuse(-3, State.CLEARING_OFF, "clear(" + group + ")", x -> x.clear(asked));
        }
    }

    @Holds(Sentence.CLEAR_OFF)
    static void clearWhileCut() {
        for (int group = 0; group <= 8; group++) {
            int asked = group;
            Twins.refuse(-3, State.CUT, "clear(" + group + ")", x -> x.clear(asked));
        }
    }

    @Holds(Sentence.CLEAR_OFF)
    static void onlyCondition31() {
        for (int condition = 0; condition <= 31; condition++) {
            TroubleMemory x = Steps.memory(1, 5);
            x.enable(condition, false);
            Edges.due(condition == 31 ? -3 : 1, x.clear(0), "clear(0), condition " + condition + " off");
            x.enable(condition, true);
            Edges.due(1, x.clear(0), "clear(0), condition " + condition + " on again");
        }
    }

    @Holds(Sentence.PARENT_UNKNOWN)
    static void parentOfNoCode() {
        for (State state : State.ON) {
            for (int n : unknownCodes(state)) {
                Twins.refuse(-1, state, "parent(" + n + ", 1)", x -> x.parent(n, 1));
                Twins.refuse(-1, state, "parent(" + n + ", 0)", x -> x.parent(n, 0));
                Twins.refuse(-1, state, "parent(1, " + n + ")", x -> x.parent(1, n));
            }
            Twins.refuse(-1, state, "parent(0, 1)", x -> x.parent(0, 1));
        }
    }

    @Holds(Sentence.PARENT_SAME)
    static void parentOfTheSame() {
        for (State state : WITH_CODES) {
            int[] codes = state.watched();
            for (int k = 0; k < codes.length - 1; k++) {
                int n = codes[k];
                Twins.refuse(-2, state, "parent(" + n + ", " + n + ")", x -> x.parent(n, n));
            }
        }
    }

    @Holds(Sentence.PARENT_ABOVE)
    static void parentThatIsBelow() {
        State[] chained = {State.BUSY, State.CLEARING_OFF};
        Twins.refuse(-3, chained, "parent(2, 3), right above it", x -> x.parent(2, 3));
        Twins.refuse(-3, chained, "parent(3, 5), right above it", x -> x.parent(3, 5));
        Twins.refuse(-3, chained, "parent(2, 5), two above it", x -> x.parent(2, 5));
        TroubleMemory x = Steps.memory(1, 5, 5, 5);
        x.parent(2, 1);
        x.parent(3, 1);
        Edges.due(2, x.parent(3, 2), "parent(3, 2), beside it before");
        Edges.due(1, x.parent(3, 1), "parent(3, 1), which is above it already");
    }

    @Holds(Sentence.PARENT_ABOVE)
    static void theLongestChainDoesNotClose() {
        TroubleMemory x = new TroubleMemory(1);
        for (int n = 1; n <= 200; n++) {
            x.code(5, 127, 127);
        }
        for (int n = 2; n <= 200; n++) {
            x.parent(n, n - 1);
        }
        Edges.due(-3, x.parent(1, 200), "parent(1, 200)");
        Edges.due(-3, x.parent(1, 2), "parent(1, 2)");
        Edges.due(-3, x.parent(199, 200), "parent(199, 200)");
        Edges.due(199, x.parent(200, 199), "parent(200, 199), as it was");
        Edges.due(0, x.parent(1, 0), "parent(1, 0), as it was");
    }

    @Holds(Sentence.PARENT_ABOVE)
    static void parentWhileCut() {
        Twins.refuse(-3, CUT_WITH_CODES, "parent(1, 2)", x -> x.parent(1, 2));
        Twins.refuse(-3, CUT_WITH_CODES, "parent(2, 1)", x -> x.parent(2, 1));
        Twins.refuse(-3, CUT_WITH_CODES, "parent(2, 0)", x -> x.parent(2, 0));
        Twins.refuse(-3, State.BUSY_CUT, "parent(3, 0), which has one", x -> x.parent(3, 0));
        Twins.refuse(-3, State.BUSY_CUT, "parent(3, 2), which has it", x -> x.parent(3, 2));
    }

    @Holds(Sentence.ENABLE_UNKNOWN)
    static void enableNoCondition() {
        int[] conditions = {LEAST, -32, -1, 32, 33, 64, MOST};
        for (int condition : conditions) {
            Twins.refuse(-1, State.ON, "enable(" + condition + ", true)", x -> x.enable(condition, true));
            Twins.refuse(-1, State.ON, "enable(" + condition + ", false)", x -> x.enable(condition, false));
        }
    }

    @Holds(Sentence.ENABLE_CUT)
    static void enableWhileCut() {
        int[] conditions = {0, 1, 7, 31};
        for (int condition : conditions) {
            Twins.refuse(-3, State.CUT, "enable(" + condition + ", true)", x -> x.enable(condition, true));
            Twins.refuse(-3, State.CUT, "enable(" + condition + ", false)", x -> x.enable(condition, false));
        }
    }

    @Holds(Sentence.CUT_CUT)
    static void cutWhileCut() {
        Twins.refuse(-3, State.CUT, "cut()", x -> x.cut());
    }

    @Holds(Sentence.START_ON)
    static void startWhileOn() {
        Twins.refuse(-3, State.ON, "start()", x -> x.start());
    }

    @Holds(Sentence.REFUSALS_CHANGE_NOTHING)
    static void manyRefusalsOneBehindTheOther() {
        for (State state : WITH_ROOM) {
            TroubleMemory asked = state.make();
            for (int i = 1; i <= 10; i++) {
                asked.code(0, 1, 1);
                asked.event(0, true);
                asked.clear(9);
                asked.parent(0, 0);
                asked.parent(1, 1);
                asked.enable(32, false);
                asked.start();
            }
            TroubleMemory twin = state.make();
            Edges.same(Look.upwards(twin, state.watched()), Look.upwards(asked, state.watched()),
                    "behind 70 refusals in the state " + state);
        }
    }
}
