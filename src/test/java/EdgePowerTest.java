import java.util.List;

/** Edges of promises 7, 12 and 13: what a cut takes, what a start brings back, and what stays. */
public final class EdgePowerTest {
    public static void main(String[] args) {
        Edges.run(EdgePowerTest.class);
    }

    private static void restart(TroubleMemory x) {
        x.cut();
        x.start();
    }

    @Holds(Sentence.CUT)
    static void entriesFromNoneToFull() {
        Edges.due(0, new TroubleMemory(4).cut(), "without a code");
        Edges.due(0, Steps.memory(4, 5).cut(), "with none");
        int[] rooms = {0, 1, 2, 3};
        for (int room : rooms) {
            TroubleMemory x = Steps.memory(room, 5, 5, 5);
            for (int n = 1; n <= 3; n++) {
                Steps.fail(x, n);
            }
            Edges.due(room, x.cut(), "full, with room " + room);
        }
    }

    @Holds(Sentence.START)
    static void entriesFromNoneTo200() {
        TroubleMemory x = new TroubleMemory(0);
        x.cut();
        Edges.due(0, x.start(), "without a code");
        TroubleMemory y = new TroubleMemory(65536);
        for (int n = 1; n <= 200; n++) {
            y.code(5, 127, 127);
        }
        for (int n = 1; n <= 200; n++) {
            Steps.fail(y, n);
        }
        y.cut();
        Edges.due(200, y.start(), "with 200 entries");
        Edges.due(0, y.lamp(3), "none of which is FAILED any more");
    }

    @Holds(Sentence.START)
    static void codesWithoutAnEntryAreNotCounted() {
        TroubleMemory x = Steps.memory(2, 5, 6, 7);
        Steps.fail(x, 2);
        x.cycle(true);
        x.cut();
        Edges.due(1, x.start(), "one of three, FAILED");
        Steps.pass(x, 2);
        x.cycle(true);
        Steps.fail(x, 3);
        x.cut();
        Edges.due(2, x.start(), "two of three, one of which passed");
    }

    @Holds(Sentence.START)
    static void thePowerIsOnAgain() {
        TroubleMemory x = new TroubleMemory(1);
        for (int i = 1; i <= 3; i++) {
            Edges.due(0, x.cut(), "cut()");
            Edges.due(-1, x.event(1, true), "an unknown code while cut");
            Edges.due(0, x.start(), "start()");
            Edges.due(-3, x.start(), "start() once more");
            Edges.due(i, x.cycle(true), "cycle(true)");
        }
    }

    @Holds(Sentence.LOST)
    static void whatWasNotKeptIsLost() {
        TroubleMemory x = Steps.memory(2, 5);
        Steps.confirm(x, 1);
        restart(x);
        Edges.due(101, x.status(1), "status, as the one cycle kept it");
        Edges.due(175, Steps.fail(x, 1), "the second trip, once more");
        x.cycle(true);
        Steps.goodCycles(x, 1, 1, true);
        Steps.fail(x, 1);
        restart(x);
        Edges.due(232, x.status(1), "status of the good cycle");
        Edges.due(1, x.age(1), "age of the good cycle");
    }

    @Holds(Sentence.LOST)
    static void entriesStayAsTheyAre() {
        TroubleMemory x = Steps.memory(2, 5, 6);
        Steps.fail(x, 2);
        Steps.fail(x, 1);
        Steps.pass(x, 2);
        Steps.fail(x, 2);
        x.cut();
        int[][] rows = {{2, 2, 6}, {1, 1, 5}};
        int[] last = {0, 5, 2, 127};
        for (int time = 1; time <= 2; time++) {
            for (int what = 0; what <= 2; what++) {
                Edges.due(rows[0][what], x.stored(0, what), "stored(0, " + what + ")");
                Edges.due(rows[1][what], x.stored(1, what), "stored(1, " + what + ")");
            }
            for (int i = 0; i <= 3; i++) {
                Edges.due(last[i], x.snapshot(2, 1, i), "snapshot(2, 1, " + i + ")");
            }
            Edges.due(1, x.snapshot(2, 0, 1), "snapshot(2, 0, 1)");
            x.start();
        }
        Steps.fail(x, 2);
        Edges.due(3, x.stored(0, 1), "it happens once more behind the start");
    }

    @Holds(Sentence.NOTHING_HAPPENS)
    static void noCallDoesAThingUntilTheStart() {
        for (State state : State.CUT) {
            TroubleMemory asked = state.make();
            for (int n : state.watched()) {
                asked.event(n, true);
                asked.event(n, false);
                asked.parent(n, 0);
                asked.parent(2, n);
            }
            for (int condition = 0; condition <= 31; condition++) {
                asked.enable(condition, false);
            }
            for (int group = 0; group <= 8; group++) {
                asked.clear(group);
            }
            asked.cycle(true);
            asked.cycle(false);
            asked.code(1, 127, 127);
            asked.cut();
            TroubleMemory twin = state.make();
            Edges.same(Look.told(twin, state.watched()), Look.told(asked, state.watched()),
                    "told behind all calls in the state " + state);
            Edges.due(twin.start(), asked.start(), "start() in the state " + state);
            int[] all = state == State.FULL_CUT ? new int[] {1} : state.watched();
            Edges.same(Look.upwards(twin, all), Look.upwards(asked, all),
                    "behind all calls and the start in the state " + state);
        }
    }

    @Holds(Sentence.TOLD_AS_BEFORE)
    static void allIsToldAsBefore() {
        for (State state : State.ON) {
            TroubleMemory x = state.make();
            List<String> before = Look.told(x, state.watched());
            x.cut();
            Edges.same(before, Look.told(x, state.watched()), "while cut, in the state " + state);
        }
    }

    @Holds(Sentence.TOLD_AS_BEFORE)
    static void theCycleThatWasCutIsToldUntilTheStart() {
        TroubleMemory x = Steps.memory(1, 5);
        Steps.confirm(x, 1);
        x.cut();
        Edges.due(175, x.status(1), "status while cut");
        Edges.due(1, x.lamp(0), "the lamp while cut");
        Edges.due(1, x.lamp(1), "CONFIRMED while cut");
        Edges.due(1, x.lamp(3), "FAILED while cut");
        x.start();
        Edges.due(101, x.status(1), "status behind the start");
        Edges.due(0, x.lamp(0), "the lamp behind the start");
        Edges.due(0, x.lamp(1), "CONFIRMED behind the start");
        TroubleMemory y = Steps.memory(1, 5);
        Steps.confirm(y, 1);
        y.cycle(true);
        Steps.goodCycles(y, 1, 1, true);
        Steps.fail(y, 1);
        y.cut();
        Edges.due(0, y.age(1), "age while cut");
        y.start();
        Edges.due(1, y.age(1), "age behind the start");
    }

    @Holds(Sentence.AS_KEPT)
    static void statusAndNumbersComeBack() {
        TroubleMemory x = Steps.memory(1, 5);
        Steps.confirm(x, 1);
        x.cycle(true);
        Steps.goodCycles(x, 1, 2, true);
        for (int i = 1; i <= 2; i++) {
            Steps.fail(x, 1);
            Edges.due(0, x.age(1), "age behind a failure");
            restart(x);
            Edges.due(232, x.status(1), "status behind start " + i);
            Edges.due(2, x.age(1), "age behind start " + i);
        }
        Steps.goodCycles(x, 1, 1, true);
        Edges.due(104, x.status(1), "the third good cycle darkens");
        Edges.due(175, Steps.fail(x, 1), "the trips were kept: lit at once");
    }

    @Holds(Sentence.AS_KEPT)
    static void tripsComeBack() {
        TroubleMemory x = Steps.memory(1, 5, 5);
        Steps.fail(x, 2);
        x.cycle(true);
        Steps.fail(x, 1);
        restart(x);
        Edges.due(39, Steps.fail(x, 1), "no trip was kept");
        Edges.due(175, Steps.fail(x, 2), "one trip was kept");
    }

    @Holds(Sentence.AS_KEPT)
    static void whatIsFailedComesBackFailed() {
        TroubleMemory x = Steps.memory(2, 5, 5);
        x.parent(2, 1);
        Steps.fail(x, 1);
        x.cycle(true);
        Steps.pass(x, 1);
        restart(x);
        Edges.due(101, x.status(1), "status of one that passed in the cycle that was cut");
        Steps.fail(x, 1);
        Edges.due(1, x.stored(0, 1), "it was FAILED, so that it is not stored again");
        Steps.fail(x, 2);
        Edges.due(1, x.stored(-1, 0), "and it hides its child");
    }

    @Holds(Sentence.AS_KEPT)
    static void anAgeOf39ComesBack() {
        TroubleMemory x = Steps.memory(1, 5);
        Steps.confirm(x, 1);
        x.cycle(true);
        Steps.goodCycles(x, 1, 39, true);
        restart(x);
        Edges.due(39, x.age(1), "age behind the start");
        Steps.goodCycles(x, 1, 1, true);
        Edges.due(96, x.status(1), "status when it is 40");
        Edges.due(0, x.stored(-1, 0), "entries when it is 40");
    }

    @Holds(Sentence.NEVER_KEPT)
    static void eightyAndNone() {
        TroubleMemory x = Steps.memory(2, 5);
        x.cycle(true);
        x.code(5, 127, 127);
        Steps.fail(x, 2);
        Edges.due(1, x.cut(), "cut()");
        Edges.due(39, x.status(2), "status while cut");
        Edges.due(1, x.start(), "start()");
        Edges.due(80, x.status(2), "status of a code that never was kept");
        Edges.due(0, x.age(2), "its age");
        Edges.due(39, Steps.fail(x, 2), "its trips are 0");
        Edges.due(2, x.stored(0, 1), "its entry has stayed");
    }

    @Holds(Sentence.NEVER_KEPT)
    static void beforeTheFirstCycle() {
        TroubleMemory x = Steps.memory(2, 5, 5);
        Steps.pass(x, 1);
        restart(x);
        Edges.due(80, x.status(1), "status of one that passed");
        Edges.due(80, x.status(2), "status of one without an event");
    }

    @Holds(Sentence.COUNTERS_AND_CONDITIONS)
    static void countersBecome0() {
        TroubleMemory x = new TroubleMemory(2);
        x.code(5, 126, 127);
        x.event(1, true);
        restart(x);
        Edges.due(80, x.event(1, true), "126, from a counter that was above 0");
        x.event(1, false);
        restart(x);
        Edges.due(80, x.event(1, false), "-127, from a counter that was below 0");
        Edges.due(0, x.event(1, false), "-128");
        x.cycle(true);
        restart(x);
        Edges.due(64, x.event(1, false), "-127, from a counter that was at -128");
        TroubleMemory y = new TroubleMemory(2);
        y.code(5, 64, 127);
        y.event(1, true);
        y.event(1, true);
        y.cycle(true);
        restart(y);
        Edges.due(101, y.event(1, true), "64, from a counter that was at 127");
    }

    @Holds(Sentence.COUNTERS_AND_CONDITIONS)
    static void allConditionsAreOn() {
        TroubleMemory x = Steps.memory(2, 5);
        for (int condition = 0; condition <= 31; condition++) {
            x.enable(condition, false);
        }
        restart(x);
        Edges.due(39, Steps.fail(x, 1), "an event behind the start");
        Edges.due(1, x.clear(0), "clear(0) behind the start");
        Edges.due(32, x.enable(0, true), "how many are on");
    }

    @Holds(Sentence.STAYS)
    static void twoHundredCodesStay() {
        TroubleMemory x = State.FULL.make();
        restart(x);
        Edges.due(-4, x.code(1, 1, 1), "code 201");
        Edges.due(80, x.status(200), "status(200)");
        Edges.due(200, x.clear(0), "how many there are");
    }

    @Holds(Sentence.STAYS)
    static void parentsCyclesEventsAndDisplacedStay() {
        TroubleMemory x = Steps.memory(1, 9, 8, 7);
        x.parent(2, 1);
        x.parent(3, 2);
        Steps.fail(x, 3);
        Steps.fail(x, 2);
        Steps.fail(x, 1);
        x.cycle(false);
        x.cycle(true);
        restart(x);
        Edges.due(2, x.parent(3, 2), "how many are above code 3");
        Edges.due(-3, x.parent(1, 3), "code 1 is above it");
        Edges.due(-1, x.displaced(0), "none was displaced");
        x.parent(2, 0);
        x.parent(3, 0);
        x.clear(0);
        Steps.fail(x, 1);
        Steps.fail(x, 2);
        Edges.due(5, x.snapshot(2, 0, 1), "events");
        Edges.due(2, x.snapshot(2, 0, 0), "cycles");
        Edges.due(1, x.displaced(0), "the first that was displaced");
        restart(x);
        Edges.due(1, x.displaced(0), "the first that was displaced, behind a start");
        Edges.due(-1, x.displaced(1), "behind the last that was displaced");
        Edges.due(3, x.cycle(true), "cycle(true)");
    }

    @Holds(Sentence.CLEAR_KEEPS)
    static void whatWasClearedComesBackClear() {
        TroubleMemory x = Steps.memory(2, 32, 33);
        Steps.confirm(x, 1);
        Steps.confirm(x, 2);
        x.cycle(true);
        Steps.goodCycles(x, 1, 1, true);
        x.clear(1);
        restart(x);
        Edges.due(80, x.status(1), "status of the cleared one");
        Edges.due(0, x.age(1), "its age");
        Edges.due(39, Steps.fail(x, 1), "its trips");
        Edges.due(1, x.stored(1, 1), "its entry is a new one");
        Edges.due(237, x.status(2), "status of one of another group");
    }

    @Holds(Sentence.CLEAR_KEEPS)
    static void onlyWhatItClears() {
        TroubleMemory x = Steps.memory(2, 32, 33);
        Steps.fail(x, 1);
        Steps.fail(x, 2);
        x.clear(1);
        restart(x);
        Edges.due(80, x.status(2), "the other one was never kept");
        TroubleMemory y = Steps.memory(2, 32);
        y.clear(0);
        Steps.fail(y, 1);
        restart(y);
        Edges.due(80, y.status(1), "as it was when it was cleared");
    }

    @Holds(Sentence.CLEAR_KEEPS)
    static void goodCyclesAreKeptAt0() {
        TroubleMemory x = Steps.memory(1, 5);
        Steps.confirm(x, 1);
        x.cycle(true);
        Steps.goodCycles(x, 1, 2, true);
        x.clear(0);
        restart(x);
        Steps.confirm(x, 1);
        x.cycle(true);
        Steps.goodCycles(x, 1, 2, true);
        Edges.due(1, x.lamp(0), "two good cycles do not darken");
        Edges.due(2, x.age(1), "age");
    }
}
