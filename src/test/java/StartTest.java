/** Promise 13. */
public final class StartTest {
    private static final Due due = new Due();

    public static void main(String[] args) {
        onlyWhenCut();
        neverKept();
        asKept();
        trips();
        goodCycles();
        countersAndConditions();
        whatStays();
        due.end();
    }

    private static void onlyWhenCut() {
        TroubleMemory x = Steps.memory(4, 5, 6);
        due.is(-3, x.start(), "start() of a new object");
        Steps.fail(x, 2);
        x.cut();
        due.is(1, x.start(), "start()");
        due.is(-3, x.start(), "start() again");
        due.is(1, x.cut(), "it can be cut again");
        due.is(1, x.start(), "and started again");
    }

    private static void neverKept() {
        TroubleMemory x = Steps.memory(4, 5);
        Steps.fail(x, 1);
        x.cut();
        x.start();
        due.is(80, x.status(1), "a code that was never kept");
        due.is(1, x.stored(-1, 0), "its entry is there");
        due.is(39, Steps.fail(x, 1), "its trips are 0");
        due.is(2, x.stored(0, 1), "its entry happens again");
    }

    private static void asKept() {
        TroubleMemory x = Steps.memory(4, 5);
        Steps.confirm(x, 1);
        x.cycle(true);
        Steps.goodCycles(x, 1, 2, true);
        due.is(0, Steps.fail(x, 1) & 64, "tested in the cycle that the cut takes");
        x.cut();
        x.start();
        due.is(232, x.status(1), "status as it was kept");
        due.is(2, x.age(1), "age as it was kept");
    }

    private static void trips() {
        TroubleMemory x = Steps.memory(4, 5, 6);
        Steps.fail(x, 1);
        x.cycle(true);
        Steps.fail(x, 2);
        x.cut();
        x.start();
        due.is(175, Steps.fail(x, 1), "the trip that was kept counts");
        due.is(39, Steps.fail(x, 2), "the trip that was not kept does not");
    }

    private static void goodCycles() {
        TroubleMemory x = Steps.memory(4, 5);
        Steps.confirm(x, 1);
        x.cycle(true);
        Steps.goodCycles(x, 1, 2, true);
        Steps.fail(x, 1);
        x.cut();
        x.start();
        Steps.goodCycles(x, 1, 1, true);
        due.is(104, x.status(1), "two good cycles were kept, the third darkens");
    }

    private static void countersAndConditions() {
        TroubleMemory x = new TroubleMemory(4);
        x.code(5, 126, 64);
        x.event(1, true);
        x.enable(1, false);
        x.enable(31, false);
        x.cut();
        x.start();
        due.is(80, x.event(1, true), "the counter is 0 again");
        due.is(39, x.event(1, true), "and its condition is on");
        due.is(1, x.clear(0), "condition 31 is on");
    }

    private static void whatStays() {
        TroubleMemory x = Steps.memory(1, 9, 8, 7);
        x.parent(3, 2);
        x.parent(2, 1);
        Steps.fail(x, 1);
        Steps.pass(x, 1);
        x.cycle(true);
        Steps.fail(x, 3);
        x.cut();
        due.is(1, x.start(), "start()");
        due.is(1, x.displaced(0), "what was displaced stays");
        due.is(-1, x.displaced(1), "and nothing else");
        due.is(3, x.stored(0, 0), "the entry stays");
        due.is(1, x.snapshot(3, 0, 0), "its snapshot stays");
        due.is(2, x.parent(3, 2), "parents stay");
        due.is(4, x.code(5, 5, 5), "codes stay");
        Steps.fail(x, 3);
        due.is(5, x.snapshot(3, 1, 1), "events stay");
        due.is(2, x.cycle(true), "cycles stay");
    }
}
