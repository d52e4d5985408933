/** Promise 15, with what the terms say of ageing. */
public final class AgeTest {
    private static final Due due = new Due();

    public static void main(String[] args) {
        unknown();
        whatAges();
        failureTakesTheAge();
        forgotten();
        forgottenWithoutAnEntry();
        due.end();
    }

    private static TroubleMemory confirmedAndPassed() {
        TroubleMemory x = Steps.memory(4, 5);
        Steps.confirm(x, 1);
        Steps.pass(x, 1);
        x.cycle(false);
        return x;
    }

    private static void unknown() {
        TroubleMemory x = Steps.memory(4, 5);
        int[] numbers = {0, -1, 2, Integer.MIN_VALUE, Integer.MAX_VALUE};
        for (int n : numbers) {
            due.is(-1, x.age(n), "age(" + n + ")");
        }
        due.is(0, x.age(1), "age at first");
        Steps.goodCycles(x, 1, 2, true);
        due.is(0, x.age(1), "a code that is not confirmed does not age");
    }

    private static void whatAges() {
        TroubleMemory x = confirmedAndPassed();
        Steps.goodCycles(x, 1, 2, false);
        due.is(0, x.age(1), "cycles without tests");
        Steps.goodCycles(x, 1, 2, true);
        due.is(2, x.age(1), "cycles with tests");
        x.cycle(true);
        due.is(2, x.age(1), "a cycle with tests, but none of this code");
        x.cut();
        due.is(2, x.age(1), "while cut");
        x.start();
        due.is(2, x.age(1), "behind the start");
    }

    private static void failureTakesTheAge() {
        TroubleMemory x = confirmedAndPassed();
        Steps.goodCycles(x, 1, 5, true);
        Steps.fail(x, 1);
        due.is(0, x.age(1), "failed");
        x.cycle(true);
        due.is(0, x.age(1), "a cycle in which it is failed");
        Steps.fail(x, 1);
        Steps.pass(x, 1);
        x.cycle(true);
        due.is(0, x.age(1), "a cycle in which it failed first");
        x.event(1, false);
        x.cycle(true);
        due.is(1, x.age(1), "a good cycle");
    }

    private static void forgotten() {
        TroubleMemory x = confirmedAndPassed();
        Steps.goodCycles(x, 1, 39, true);
        due.is(39, x.age(1), "39 cycles");
        due.is(104, x.status(1), "status behind 39 cycles");
        due.is(1, x.stored(-1, 0), "entries behind 39 cycles");
        Steps.goodCycles(x, 1, 1, true);
        due.is(0, x.age(1), "40 cycles");
        due.is(96, x.status(1), "status behind 40 cycles");
        due.is(0, x.stored(-1, 0), "entries behind 40 cycles");
        due.is(-1, x.snapshot(1, 0, 0), "snapshot behind 40 cycles");
        due.is(-1, x.displaced(0), "aged is not displaced");
        due.is(39, Steps.fail(x, 1), "its trips are 0");
        x.cycle(true);
        due.is(175, Steps.fail(x, 1), "it can be confirmed again");
    }

    private static void forgottenWithoutAnEntry() {
        TroubleMemory x = Steps.memory(1, 5, 4);
        Steps.confirm(x, 1);
        Steps.pass(x, 1);
        Steps.fail(x, 2);
        x.cycle(false);
        Steps.goodCycles(x, 1, 40, true);
        due.is(96, x.status(1), "status behind 40 cycles");
        due.is(2, x.stored(0, 0), "the other's entry stays");
        due.is(1, x.stored(-1, 0), "it alone");
    }
}
