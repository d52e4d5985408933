/** Edges of promises 5, 6, 10, 11, 14 and 15: the calls that only tell. */
public final class EdgeTellingTest {
    private static final int LEAST = Integer.MIN_VALUE;
    private static final int MOST = Integer.MAX_VALUE;

    public static void main(String[] args) {
        Edges.run(EdgeTellingTest.class);
    }

    private static int[] unknownCodes(State state) {
        int[] known = state.watched();
        int none = known[known.length - 1];
        return new int[] {LEAST, LEAST + 1, -201, -1, 0, none, 201, MOST - 1, MOST};
    }

    @Holds(Sentence.STATUS)
    static void theFirstAndTheLastCode() {
        TroubleMemory x = State.FULL.make();
        Edges.due(39, x.status(1), "status(1)");
        Edges.due(80, x.status(2), "status(2)");
        Edges.due(80, x.status(199), "status(199)");
        Edges.due(39, x.status(200), "status(200)");
    }

    @Holds(Sentence.STATUS_UNKNOWN)
    static void statusOfNoCode() {
        for (State state : State.values()) {
            for (int n : unknownCodes(state)) {
                Twins.refuse(-1, state, "status(" + n + ")", x -> x.status(n));
            }
        }
    }

    @Holds(Sentence.AGE_UNKNOWN)
    static void ageOfNoCode() {
        for (State state : State.values()) {
            for (int n : unknownCodes(state)) {
                Twins.refuse(-1, state, "age(" + n + ")", x -> x.age(n));
            }
        }
    }

    @Holds(Sentence.SNAPSHOT_UNKNOWN)
    static void snapshotOfNoCode() {
        for (State state : State.values()) {
            for (int n : unknownCodes(state)) {
                Twins.refuse(-1, state, "snapshot(" + n + ", 0, 0)", x -> x.snapshot(n, 0, 0));
                Twins.refuse(-1, state, "snapshot(" + n + ", 1, 3)", x -> x.snapshot(n, 1, 3));
            }
        }
    }

    @Holds(Sentence.SNAPSHOT_UNKNOWN)
    static void snapshotWithoutAnEntry() {
        State[] busy = {State.BUSY, State.BUSY_CUT};
        Twins.refuse(-1, busy, "snapshot(5, 0, 0) of one that was displaced", x -> x.snapshot(5, 0, 0));
        Twins.refuse(-1, busy, "snapshot(2, 1, 0) of one that never failed", x -> x.snapshot(2, 1, 0));
        State[] full = {State.FULL, State.FULL_CUT};
        Twins.refuse(-1, full, "snapshot(200, 0, 3) of one without room", x -> x.snapshot(200, 0, 3));
        State[] noRoom = {State.NO_ROOM, State.NO_ROOM_CUT};
        Twins.refuse(-1, noRoom, "snapshot(1, 0, 0) with room 0", x -> x.snapshot(1, 0, 0));
    }

    @Holds(Sentence.SNAPSHOT_NONE)
    static void anotherWhich() {
        int[] others = {LEAST, -2, -1, 2, 3, MOST};
        State[] states = {State.BUSY, State.BUSY_CUT, State.FULL, State.FULL_CUT};
        for (int which : others) {
            Twins.refuse(-2, states, "snapshot(1, " + which + ", 0)", x -> x.snapshot(1, which, 0));
        }
    }

    @Holds(Sentence.SNAPSHOT_NONE)
    static void anotherI() {
        int[] others = {LEAST, -2, -1, 4, 5, MOST};
        State[] states = {State.BUSY, State.BUSY_CUT, State.FULL, State.FULL_CUT};
        for (int i : others) {
            Twins.refuse(-2, states, "snapshot(1, 0, " + i + ")", x -> x.snapshot(1, 0, i));
            Twins.refuse(-2, states, "snapshot(1, 1, " + i + ")", x -> x.snapshot(1, 1, i));
        }
    }

    @Holds(Sentence.LAMPS)
    static void fromNoneToAll() {
        TroubleMemory x = Steps.memory(0, 64, 64, 65);
        int[][] due = {{0, 0, 0, 0}, {0, 0, 3, 3}, {1, 3, 3, 3}, {1, 3, 3, 0}, {1, 3, 0, 0}, {0, 3, 0, 0}};
        for (int step = 0; step < due.length; step++) {
            takeStep(x, step);
            for (int kind = 0; kind <= 3; kind++) {
                Edges.due(due[step][kind], x.lamp(kind), "lamp(" + kind + ") behind step " + step);
            }
        }
    }

    private static void takeStep(TroubleMemory x, int step) {
        if (step == 2 || step == 4) {
            x.cycle(true);
        }
        for (int n = 1; n <= 3; n++) {
            if (step == 1 || step == 2) {
                Steps.fail(x, n);
            } else if (step >= 3) {
                Steps.pass(x, n);
            }
        }
        for (int i = 0; i < (step == 5 ? 2 : step == 4 ? 1 : 0); i++) {
            x.cycle(true);
            x.event(1, false);
            x.event(2, false);
        }
    }

    @Holds(Sentence.LAMPS)
    static void theLampIs1NotHowMany() {
        TroubleMemory x = Steps.memory(0, 1, 2, 3);
        for (int n = 1; n <= 3; n++) {
            Steps.confirm(x, n);
            Edges.due(1, x.lamp(0), "lamp(0) with " + n + " codes that have bit 7");
        }
        TroubleMemory y = Steps.memory(0, 65);
        Steps.confirm(y, 1);
        Edges.due(0, y.lamp(0), "lamp(0), confirmed without bit 7");
        Edges.due(1, y.lamp(1), "lamp(1), confirmed without bit 7");
    }

    @Holds(Sentence.LAMPS)
    static void twoHundredFailed() {
        TroubleMemory x = new TroubleMemory(0);
        for (int n = 1; n <= 200; n++) {
            x.code(65, 127, 127);
        }
        for (int n = 1; n <= 200; n++) {
            Steps.fail(x, n);
        }
        Edges.due(200, x.lamp(3), "lamp(3)");
        Edges.due(200, x.lamp(2), "lamp(2)");
        Edges.due(0, x.lamp(1), "lamp(1)");
        Edges.due(0, x.lamp(0), "lamp(0)");
    }

    @Holds(Sentence.LAMPS_NONE)
    static void noSuchKind() {
        int[] others = {LEAST, -2, -1, 4, 5, MOST};
        for (int kind : others) {
            Twins.refuse(-2, State.values(), "lamp(" + kind + ")", x -> x.lamp(kind));
        }
    }

    @Holds(Sentence.STORED_UNKNOWN)
    static void noSuchEntry() {
        for (State state : State.values()) {
            int count = state.make().stored(-1, 0);
            int[] others = {LEAST, -3, -2, count, count + 1, 200, 65536, MOST};
            for (int i : others) {
                for (int what = 0; what <= 2; what++) {
                    int asked = what;
                    Twins.refuse(-1, state, "stored(" + i + ", " + what + ")", x -> x.stored(i, asked));
                }
            }
        }
    }

    @Holds(Sentence.STORED_UNKNOWN)
    static void minus1CountsWithWhat0Alone() {
        Twins.refuse(-1, State.values(), "stored(-1, 1)", x -> x.stored(-1, 1));
        Twins.refuse(-1, State.values(), "stored(-1, 2)", x -> x.stored(-1, 2));
    }

    @Holds(Sentence.STORED_NONE)
    static void noSuchWhat() {
        int[] others = {LEAST, -2, -1, 3, 4, MOST};
        State[] states = {State.BUSY, State.BUSY_CUT};
        for (int what : others) {
            Twins.refuse(-2, states, "stored(0, " + what + ")", x -> x.stored(0, what));
            Twins.refuse(-2, states, "stored(1, " + what + ")", x -> x.stored(1, what));
        }
    }

    @Holds(Sentence.DISPLACED_UNKNOWN)
    static void noneWasDisplaced() {
        int[] others = {LEAST, -2, -1, 1, 2, 499, 500, 501, MOST};
        for (int i : others) {
            Twins.refuse(-1, State.values(), "displaced(" + i + ")", x -> x.displaced(i));
        }
        State[] without = {State.NEW, State.NEW_CUT, State.NO_ROOM, State.NO_ROOM_CUT, State.FULL, State.FULL_CUT};
        Twins.refuse(-1, without, "displaced(0)", x -> x.displaced(0));
        Edges.due(5, State.BUSY.make().displaced(0), "displaced(0), the only one");
    }

    @Holds(Sentence.DISPLACED_UNKNOWN)
    static void besideThree() {
        TroubleMemory x = Steps.memory(1, 9, 8, 7, 6);
        for (int n = 1; n <= 4; n++) {
            Steps.fail(x, n);
        }
        int[] others = {LEAST, -3, -2, -1, 3, 4, MOST};
        for (int i : others) {
            Edges.due(-1, x.displaced(i), "displaced(" + i + ")");
        }
        Edges.due(3, x.displaced(2), "displaced(2), the last one");
    }
}
