/** Edges of all promises: of two refusals that fit at once the first is answered; and each call while cut. */
public final class EdgeFirstRefusalTest {
    private static final int LEAST = Integer.MIN_VALUE;
    private static final int MOST = Integer.MAX_VALUE;

    public static void main(String[] args) {
        Edges.run(EdgeFirstRefusalTest.class);
    }

    @Holds(Sentence.FIRST_THAT_FITS)
    static void codeOutsideARangeWhileCutOrFull() {
        int[][] wrong = {{0, 1, 1}, {256, 127, 127}, {1, 0, 1}, {1, 128, 1}, {1, 1, 0}, {1, 1, 128}, {LEAST, MOST, 0}};
        for (int[] row : wrong) {
            String what = "code(" + row[0] + ", " + row[1] + ", " + row[2] + ")";
            Twins.refuse(-2, State.CUT, what, x -> x.code(row[0], row[1], row[2]));
            Twins.refuse(-2, State.FULL, what, x -> x.code(row[0], row[1], row[2]));
        }
    }

    @Holds(Sentence.FIRST_THAT_FITS)
    static void codeWhileCutAndFull() {
        Twins.refuse(-3, State.FULL_CUT, "code(1, 1, 1), the 201st", x -> x.code(1, 1, 1));
    }

    @Holds(Sentence.FIRST_THAT_FITS)
    static void eventOfNoCodeWhileCut() {
        int[] unknown = {LEAST, -1, 0, 201, MOST};
        for (int n : unknown) {
            Twins.refuse(-1, State.CUT, "event(" + n + ", true)", x -> x.event(n, true));
        }
        Twins.refuse(-1, State.NEW_CUT, "event(1, true), without a code", x -> x.event(1, true));
        Twins.refuse(-1, State.BUSY_CUT, "event(6, false), one behind the last", x -> x.event(6, false));
    }

    @Holds(Sentence.FIRST_THAT_FITS)
    static void snapshotOfNothingWithAnotherWhichOrI() {
        int[][] rows = {{0, 2, 0}, {0, 0, 4}, {201, -1, 0}, {201, 0, -1}, {LEAST, LEAST, LEAST}, {MOST, MOST, MOST}};
        for (int[] row : rows) {
            String what = "snapshot(" + row[0] + ", " + row[1] + ", " + row[2] + ")";
            Twins.refuse(-1, State.values(), what, x -> x.snapshot(row[0], row[1], row[2]));
        }
        State[] busy = {State.BUSY, State.BUSY_CUT};
        Twins.refuse(-1, busy, "snapshot(5, 2, 0), without an entry", x -> x.snapshot(5, 2, 0));
        Twins.refuse(-1, busy, "snapshot(5, 0, 4), without an entry", x -> x.snapshot(5, 0, 4));
    }

    @Holds(Sentence.FIRST_THAT_FITS)
    static void clearNoGroupWhileCutOrOff() {
        int[] groups = {LEAST, -1, 9, MOST};
        for (int group : groups) {
            Twins.refuse(-2, State.CUT, "clear(" + group + ")", x -> x.clear(group));
            Twins.refuse(-2, State.CLEARING_OFF, "clear(" + group + ")", x -> x.clear(group));
        }
    }

    @Holds(Sentence.FIRST_THAT_FITS)
    static void parentOfTheSameThatIsNone() {
        int[] unknown = {LEAST, -1, 0, 201, MOST};
        for (int n : unknown) {
            Twins.refuse(-1, State.values(), "parent(" + n + ", " + n + ")", x -> x.parent(n, n));
        }
    }

    @Holds(Sentence.FIRST_THAT_FITS)
    static void parentOfNoCodeWhileCut() {
        int[] unknown = {LEAST, -1, 201, MOST};
        for (int n : unknown) {
            Twins.refuse(-1, State.CUT, "parent(" + n + ", 1)", x -> x.parent(n, 1));
            Twins.refuse(-1, State.CUT, "parent(1, " + n + ")", x -> x.parent(1, n));
            Twins.refuse(-1, State.CUT, "parent(" + n + ", 0)", x -> x.parent(n, 0));
        }
        Twins.refuse(-1, State.CUT, "parent(0, 0)", x -> x.parent(0, 0));
    }

    @Holds(Sentence.FIRST_THAT_FITS)
    static void parentOfTheSameWhileCut() {
        State[] withCodes = {State.NO_ROOM_CUT, State.BUSY_CUT, State.FULL_CUT};
        Twins.refuse(-2, withCodes, "parent(1, 1)", x -> x.parent(1, 1));
        Twins.refuse(-2, State.FULL_CUT, "parent(200, 200)", x -> x.parent(200, 200));
    }

    @Holds(Sentence.FIRST_THAT_FITS)
    static void parentThatIsBelowWhileCut() {
        Twins.refuse(-3, State.BUSY_CUT, "parent(2, 5)", x -> x.parent(2, 5));
    }

    @Holds(Sentence.FIRST_THAT_FITS)
    static void enableNoConditionWhileCut() {
        int[] conditions = {LEAST, -1, 32, MOST};
        for (int condition : conditions) {
            Twins.refuse(-1, State.CUT, "enable(" + condition + ", true)", x -> x.enable(condition, true));
            Twins.refuse(-1, State.CUT, "enable(" + condition + ", false)", x -> x.enable(condition, false));
        }
    }

    @Holds(Sentence.FIRST_THAT_FITS)
    static void storedOfNoEntryWithNoSuchWhat() {
        int[][] rows = {{-1, -1}, {-1, 3}, {-2, 3}, {2, 3}, {2, -1}, {LEAST, LEAST}, {MOST, MOST}, {-1, LEAST}};
        for (int[] row : rows) {
            String what = "stored(" + row[0] + ", " + row[1] + ")";
            Twins.refuse(-1, State.values(), what, x -> x.stored(row[0], row[1]));
        }
        Twins.refuse(-1, State.NEW, "stored(0, 3), empty", x -> x.stored(0, 3));
    }

    @Holds(Sentence.REFUSED_WHILE_CUT)
    static void allThatChangesIsRefused() {
        State state = State.BUSY_CUT;
        Twins.refuse(-3, state, "code(1, 1, 1)", x -> x.code(1, 1, 1));
        Twins.refuse(-3, state, "event(1, true)", x -> x.event(1, true));
        Twins.refuse(-3, state, "event(4, true), whose condition is off", x -> x.event(4, true));
        Twins.refuse(-3, state, "cycle(true)", x -> x.cycle(true));
        Twins.refuse(-3, state, "clear(0)", x -> x.clear(0));
        Twins.refuse(-3, state, "parent(1, 2)", x -> x.parent(1, 2));
        Twins.refuse(-3, state, "enable(4, true)", x -> x.enable(4, true));
        Twins.refuse(-3, state, "cut()", x -> x.cut());
    }

    @Holds(Sentence.REFUSED_WHILE_CUT)
    static void allThatTellsIsAnswered() {
        TroubleMemory x = State.BUSY_CUT.make();
        Edges.due(168, x.status(1), "status(1)");
        Edges.due(80, x.status(2), "status(2)");
        Edges.due(3, x.snapshot(1, 0, 1), "snapshot(1, 0, 1)");
        Edges.due(1, x.lamp(0), "lamp(0)");
        Edges.due(1, x.lamp(1), "lamp(1)");
        Edges.due(2, x.lamp(2), "lamp(2)");
        Edges.due(2, x.lamp(3), "lamp(3)");
        Edges.due(2, x.stored(-1, 0), "stored(-1, 0)");
        Edges.due(4, x.stored(0, 0), "stored(0, 0)");
        Edges.due(1, x.stored(1, 0), "stored(1, 0)");
        Edges.due(5, x.displaced(0), "displaced(0)");
        Edges.due(1, x.age(1), "age(1)");
    }

    @Holds(Sentence.REFUSED_WHILE_CUT)
    static void startIsAnswered() {
        int[] entries = {0, 0, 2, 2, 1};
        for (int i = 0; i < entries.length; i++) {
            Edges.due(entries[i], State.CUT[i].make().start(), "start() in the state " + State.CUT[i]);
        }
    }
}
