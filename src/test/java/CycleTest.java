/** Promise 4. */
public final class CycleTest {
    private static final Due due = new Due();

    public static void main(String[] args) {
        counts();
        pending();
        trips();
        goodCyclesDarken();
        goodCyclesStartAgain();
        goodCyclesOnly();
        due.end();
    }

    private static void counts() {
        TroubleMemory x = Steps.memory(4, 5);
        due.is(1, x.cycle(true), "first cycle");
        due.is(2, x.cycle(false), "second cycle");
        due.is(80, x.status(1), "a code never tested");
        x.cut();
        due.is(-3, x.cycle(true), "cycle while cut");
        x.start();
        due.is(3, x.cycle(true), "cycles stay over a cut");
        x.clear(0);
        due.is(4, x.cycle(true), "cycles stay over clearing");
    }

    private static void pending() {
        TroubleMemory x = Steps.memory(4, 5);
        Steps.fail(x, 1);
        Steps.pass(x, 1);
        x.cycle(true);
        due.is(100, x.status(1), "pending stays behind a cycle in which it failed");
        x.cycle(true);
        due.is(100, x.status(1), "pending stays behind a cycle without its test");
        Steps.goodCycles(x, 1, 1, false);
        due.is(96, x.status(1), "pending goes behind a good cycle");
    }

    private static void trips() {
        TroubleMemory x = Steps.memory(4, 5);
        Steps.fail(x, 1);
        x.cycle(true);
        Steps.goodCycles(x, 1, 1, true);
        due.is(39, Steps.fail(x, 1), "a good cycle takes the trips");
        x.cycle(true);
        x.cycle(true);
        due.is(175, Steps.fail(x, 1), "a cycle without its test leaves them");
        x.cycle(true);
        Steps.goodCycles(x, 1, 3, false);
        due.is(104, x.status(1), "the lamp is dark behind three good cycles");
        due.is(175, Steps.fail(x, 1), "a confirmed code has kept its trips");
    }

    private static void goodCyclesDarken() {
        TroubleMemory x = Steps.memory(4, 5);
        Steps.confirm(x, 1);
        x.cycle(true);
        due.is(237, x.status(1), "behind the cycle that confirmed");
        Steps.goodCycles(x, 1, 2, true);
        due.is(232, x.status(1), "two good cycles");
        x.cycle(true);
        due.is(232, x.status(1), "a cycle without its test is none of them");
        Steps.goodCycles(x, 1, 1, true);
        due.is(104, x.status(1), "three good cycles");
    }

    private static void goodCyclesStartAgain() {
        TroubleMemory x = Steps.memory(4, 5);
        Steps.confirm(x, 1);
        x.cycle(true);
        Steps.goodCycles(x, 1, 2, true);
        Steps.fail(x, 1);
        x.cycle(true);
        Steps.goodCycles(x, 1, 2, true);
        due.is(232, x.status(1), "two good cycles behind a failure");
        Steps.goodCycles(x, 1, 1, true);
        due.is(104, x.status(1), "three good cycles behind a failure");
    }

    private static void goodCyclesOnly() {
        TroubleMemory x = Steps.memory(4, 5);
        Steps.confirm(x, 1);
        Steps.pass(x, 1);
        x.cycle(true);
        Steps.goodCycles(x, 1, 2, true);
        due.is(232, x.status(1), "a cycle in which it failed first is none of them");
        x.event(1, false);
        x.cycle(true);
        due.is(104, x.status(1), "the third");
    }
}
