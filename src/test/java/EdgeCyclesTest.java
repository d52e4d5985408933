/** Edges of promises 4 and 15: what a cycle's end does, good cycles, ages. */
public final class EdgeCyclesTest {
    public static void main(String[] args) {
        Edges.run(EdgeCyclesTest.class);
    }

    private static int bit(int n, int status) {
        return status >> n & 1;
    }

    /** A code that is confirmed and has passed, with no good cycle yet. */
    private static TroubleMemory confirmed(int room) {
        TroubleMemory x = Steps.memory(room, 5);
        Steps.confirm(x, 1);
        Steps.pass(x, 1);
        x.cycle(false);
        return x;
    }

    @Holds(Sentence.CYCLE)
    static void cyclesAreCounted() {
        TroubleMemory x = new TroubleMemory(0);
        Edges.due(1, x.cycle(true), "with tests, without a code");
        Edges.due(2, x.cycle(false), "without tests");
        x.code(5, 127, 127);
        Edges.due(3, x.cycle(false), "with a code");
        x.clear(0);
        Edges.due(4, x.cycle(true), "behind a clearing");
        x.cut();
        x.start();
        Edges.due(5, x.cycle(true), "behind a cut");
    }

    @Holds(Sentence.CYCLE_PENDING)
    static void pendingGoesWhenTestedAndNotFailed() {
        TroubleMemory x = Steps.memory(1, 5);
        Steps.fail(x, 1);
        Steps.pass(x, 1);
        x.cycle(true);
        Edges.due(1, bit(2, x.status(1)), "bit 1 was 1: failed in this cycle, then passed");
        x.cycle(true);
        Edges.due(1, bit(2, x.status(1)), "bit 6 was 1: not tested");
        x.event(1, false);
        x.cycle(false);
        Edges.due(0, bit(2, x.status(1)), "both were 0: passed alone");
    }

    @Holds(Sentence.CYCLE_PENDING)
    static void eachOf200Codes() {
        TroubleMemory x = new TroubleMemory(0);
        for (int n = 1; n <= 200; n++) {
            x.code(5, 127, 127);
        }
        Steps.fail(x, 1);
        Steps.fail(x, 100);
        Steps.fail(x, 200);
        x.cycle(true);
        Steps.pass(x, 1);
        Steps.pass(x, 200);
        x.cycle(true);
        Edges.due(1, x.lamp(2), "how many are PENDING");
        Edges.due(96, x.status(1), "status(1)");
        Edges.due(101, x.status(100), "status(100)");
        Edges.due(96, x.status(200), "status(200)");
    }

    @Holds(Sentence.CYCLE_TRIPS)
    static void aGoodCycleTakesTheTrip() {
        TroubleMemory x = Steps.memory(1, 5);
        Steps.fail(x, 1);
        x.cycle(true);
        Steps.goodCycles(x, 1, 1, false);
        Edges.due(0, bit(3, Steps.fail(x, 1)), "bit 3, when the trip was taken");
        x.cycle(true);
        Edges.due(1, bit(3, Steps.fail(x, 1)), "bit 3 in the cycle behind it");
    }

    @Holds(Sentence.CYCLE_TRIPS)
    static void otherCyclesLeaveTheTrip() {
        TroubleMemory x = Steps.memory(1, 5);
        Steps.fail(x, 1);
        Steps.pass(x, 1);
        x.cycle(true);
        x.cycle(true);
        Edges.due(1, bit(3, Steps.fail(x, 1)), "bit 3, failed and passed, then not tested");
    }

    @Holds(Sentence.CYCLE_TRIPS)
    static void tripsOfAConfirmedOneStay() {
        TroubleMemory x = confirmed(1);
        Steps.goodCycles(x, 1, 4, false);
        Edges.due(0, x.lamp(0), "the lamp behind good cycles");
        Edges.due(175, Steps.fail(x, 1), "the next failure lights it at once");
    }

    @Holds(Sentence.CYCLE_GOOD)
    static void threeGoodCyclesDarken() {
        TroubleMemory x = confirmed(1);
        int[] lamps = {1, 1, 0, 0};
        for (int i = 0; i < 4; i++) {
            Steps.goodCycles(x, 1, 1, false);
            Edges.due(lamps[i], x.lamp(0), "the lamp with " + (i + 1) + " good cycles");
        }
        Edges.due(104, x.status(1), "status, still CONFIRMED");
    }

    @Holds(Sentence.CYCLE_GOOD)
    static void othersAreNotGood() {
        TroubleMemory x = confirmed(1);
        Steps.goodCycles(x, 1, 2, false);
        x.cycle(true);
        x.cycle(false);
        Edges.due(1, x.lamp(0), "the lamp, two cycles not tested");
        x.event(1, false);
        Edges.due(1, x.lamp(0), "the lamp before the cycle ends");
        x.cycle(false);
        Edges.due(0, x.lamp(0), "the lamp, the third good one");
    }

    @Holds(Sentence.CYCLE_GOOD)
    static void asManyAsCallsAllow() {
        TroubleMemory x = confirmed(1);
        x.event(1, false);
        x.event(1, false);
        for (int good = 1; good <= 237; good++) {
            x.cycle(false);
            Edges.due(good >= 3 ? 40 : 168, x.event(1, false), "status with " + good + " good cycles");
        }
        Edges.due(175, Steps.fail(x, 1), "status behind a failure");
        Edges.due(1, x.lamp(0), "the lamp behind it");
        for (int good = 1; good <= 3; good++) {
            x.cycle(false);
            Steps.pass(x, 1);
        }
        x.cycle(false);
        Edges.due(0, x.lamp(0), "the lamp behind three good cycles more");
    }

    @Holds(Sentence.CYCLE_AGE)
    static void onlyWithTests() {
        TroubleMemory x = confirmed(1);
        Steps.goodCycles(x, 1, 1, false);
        Edges.due(0, x.age(1), "without tests");
        Steps.goodCycles(x, 1, 1, true);
        Edges.due(1, x.age(1), "with tests");
        Steps.goodCycles(x, 1, 1, false);
        Edges.due(1, x.age(1), "without tests again");
    }

    @Holds(Sentence.CYCLE_AGE)
    static void onlyWhatIsConfirmedAndNotFailed() {
        TroubleMemory x = Steps.memory(2, 5, 5);
        Steps.goodCycles(x, 1, 2, true);
        Edges.due(0, x.age(1), "never failed");
        Steps.fail(x, 2);
        x.cycle(true);
        Steps.goodCycles(x, 2, 2, true);
        Edges.due(0, x.age(2), "pending, not confirmed");
        Steps.confirm(x, 2);
        x.cycle(true);
        Edges.due(0, x.age(2), "confirmed, and FAILED in this cycle");
        x.cycle(true);
        Edges.due(0, x.age(2), "confirmed, and FAILED since the cycle before");
        Steps.goodCycles(x, 2, 1, true);
        Edges.due(1, x.age(2), "confirmed, and passed");
    }

    @Holds(Sentence.CYCLE_AGE)
    static void onlyIfTheCycleWasAGoodOne() {
        TroubleMemory x = confirmed(1);
        x.cycle(true);
        Edges.due(0, x.age(1), "not tested in this cycle");
        Steps.fail(x, 1);
        Steps.pass(x, 1);
        x.cycle(true);
        Edges.due(0, x.age(1), "failed in this cycle, then passed");
    }

    @Holds(Sentence.CYCLE_OLD)
    static void confirmedUntil40() {
        TroubleMemory x = confirmed(1);
        for (int age = 1; age <= 39; age++) {
            Steps.goodCycles(x, 1, 1, true);
            Edges.due(age, x.age(1), "age");
        }
        Edges.due(104, x.status(1), "status with 39");
        Edges.due(1, x.stored(-1, 0), "entries with 39");
        Steps.goodCycles(x, 1, 1, true);
        Edges.due(0, x.age(1), "age with 40");
        Edges.due(96, x.status(1), "status with 40");
        Edges.due(0, x.stored(-1, 0), "entries with 40");
        Edges.due(-1, x.snapshot(1, 0, 0), "snapshot with 40");
        Edges.due(-1, x.displaced(0), "it was not displaced");
        Steps.goodCycles(x, 1, 1, true);
        Edges.due(0, x.age(1), "age in the cycle behind it");
    }

    @Holds(Sentence.CYCLE_OLD)
    static void thirtyNineAndOneWithoutTests() {
        TroubleMemory x = confirmed(1);
        Steps.goodCycles(x, 1, 39, true);
        Steps.goodCycles(x, 1, 1, false);
        Edges.due(39, x.age(1), "age");
        Edges.due(104, x.status(1), "status");
        Edges.due(1, x.stored(-1, 0), "entries");
    }

    @Holds(Sentence.CYCLE_OLD)
    static void withoutAnEntry() {
        TroubleMemory x = confirmed(0);
        Steps.goodCycles(x, 1, 39, true);
        Edges.due(39, x.age(1), "age with room 0");
        Steps.goodCycles(x, 1, 1, true);
        Edges.due(0, x.age(1), "age with room 0, when it is 40");
        Edges.due(96, x.status(1), "status with room 0");
        TroubleMemory y = Steps.memory(1, 9, 5);
        Steps.confirm(y, 1);
        Steps.fail(y, 2);
        y.cycle(true);
        Steps.goodCycles(y, 1, 40, true);
        Edges.due(96, y.status(1), "status of one that was displaced");
        Edges.due(1, y.stored(-1, 0), "entries, of which it has none");
        Edges.due(2, y.stored(0, 0), "whose the entry is");
    }

    @Holds(Sentence.CYCLE_OLD)
    static void onlyItsOwnEntryGoes() {
        TroubleMemory x = Steps.memory(3, 5, 6, 7);
        Steps.fail(x, 3);
        Steps.confirm(x, 1);
        Steps.fail(x, 2);
        x.cycle(true);
        Steps.goodCycles(x, 1, 40, true);
        Edges.due(2, x.stored(-1, 0), "entries");
        Edges.due(3, x.stored(0, 0), "the one before it");
        Edges.due(2, x.stored(1, 0), "the one behind it");
    }

    @Holds(Sentence.CYCLE_OLD)
    static void tripsAndGoodAre0() {
        TroubleMemory x = confirmed(1);
        Steps.goodCycles(x, 1, 40, true);
        Edges.due(39, Steps.fail(x, 1), "the first failure does not confirm");
        Edges.due(1, x.stored(0, 1), "it is a new entry");
        x.cycle(true);
        Edges.due(175, Steps.fail(x, 1), "the second does");
        x.cycle(true);
        Steps.goodCycles(x, 1, 2, true);
        Edges.due(1, x.lamp(0), "two good cycles do not darken");
        Edges.due(2, x.age(1), "it ages from 0 on");
    }

    @Holds(Sentence.CYCLE_BEGINS)
    static void bit1IsTakenAndBit6IsSet() {
        TroubleMemory x = Steps.memory(1, 5, 5, 5);
        Steps.fail(x, 2);
        Steps.pass(x, 3);
        x.cycle(false);
        Edges.due(80, x.status(1), "of 80");
        Edges.due(101, x.status(2), "of 39");
        Edges.due(64, x.status(3), "of 0");
        x.cycle(false);
        Edges.due(80, x.status(1), "of 80 again");
        Edges.due(101, x.status(2), "of 101");
        Edges.due(64, x.status(3), "of 64");
    }

    @Holds(Sentence.CYCLE_KEEPS)
    static void whatTheEndMadeIsKept() {
        TroubleMemory x = Steps.memory(1, 5);
        Steps.fail(x, 1);
        x.cycle(false);
        x.cut();
        x.start();
        Edges.due(101, x.status(1), "status with bit 6, without bit 1");
        Edges.due(175, Steps.fail(x, 1), "the trip was kept");
    }

    @Holds(Sentence.CYCLE_KEEPS)
    static void theLastEndIsKept() {
        TroubleMemory x = confirmed(1);
        Steps.goodCycles(x, 1, 2, true);
        x.cut();
        x.start();
        Edges.due(2, x.age(1), "age behind the second good cycle");
        Steps.goodCycles(x, 1, 1, true);
        Edges.due(104, x.status(1), "the third one darkens");
        x.cut();
        x.start();
        Edges.due(3, x.age(1), "age behind the third good cycle");
        Edges.due(104, x.status(1), "status behind the third good cycle");
    }

    @Holds(Sentence.CYCLE_KEEPS)
    static void whatHas40IsKeptWithout() {
        TroubleMemory x = confirmed(1);
        Steps.goodCycles(x, 1, 40, true);
        x.cut();
        Edges.due(0, x.start(), "start(), the entry has gone");
        Edges.due(96, x.status(1), "status");
        Edges.due(0, x.age(1), "age");
        Edges.due(39, Steps.fail(x, 1), "trips are 0");
    }

    @Holds(Sentence.AGE)
    static void from0To39() {
        TroubleMemory x = confirmed(1);
        Edges.due(0, x.age(1), "the least");
        Steps.goodCycles(x, 1, 39, true);
        Edges.due(39, x.age(1), "the greatest");
        x.clear(0);
        Edges.due(0, x.age(1), "behind clearing");
    }
}
