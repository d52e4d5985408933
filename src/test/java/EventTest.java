/** Promise 3. */
public final class EventTest {
    private static final Due due = new Due();

    public static void main(String[] args) {
        smallSteps();
        turning();
        bothWays();
        tripsAndLamp();
        testedAgainAtTheEnd();
        conditionOff();
        refusals();
        due.end();
    }

    private static void smallSteps() {
        TroubleMemory x = new TroubleMemory(4);
        x.code(5, 1, 1);
        for (int i = 1; i <= 126; i++) {
            due.is(80, x.event(1, true), "step up " + i);
        }
        due.is(39, x.event(1, true), "step up 127");
        for (int i = 1; i <= 127; i++) {
            due.is(39, x.event(1, false), "step down " + i);
        }
        due.is(38, x.event(1, false), "step down 128");
    }

    private static void turning() {
        TroubleMemory x = new TroubleMemory(4);
        x.code(5, 50, 64);
        x.event(1, true);
        x.event(1, true);
        due.is(80, x.event(1, false), "100 falls to 0, then to -64");
        x.event(1, true);
        x.event(1, true);
        due.is(39, x.event(1, true), "-64 rises to 0, then to 127 with three steps");
        due.is(39, x.event(1, false), "127 falls to -64");
        due.is(38, x.event(1, false), "-64 falls to -128");
    }

    private static void bothWays() {
        TroubleMemory x = Steps.memory(4, 5);
        due.is(80, x.event(1, false), "-127 is no test");
        due.is(0, x.event(1, false), "passed at first");
        due.is(39, x.event(1, true), "failed behind it");
        due.is(39, x.event(1, true), "failed again in the same cycle");
        due.is(38, Steps.pass(x, 1), "passed behind it");
    }

    private static void tripsAndLamp() {
        TroubleMemory x = Steps.memory(4, 64, 65);
        due.is(175, Steps.confirm(x, 1), "priority 64 lights the lamp");
        due.is(47, Steps.confirm(x, 2), "priority 65 lights none");
        TroubleMemory y = Steps.memory(4, 5);
        Steps.fail(y, 1);
        Steps.pass(y, 1);
        due.is(39, Steps.fail(y, 1), "twice in one cycle is one trip");
    }

    private static void testedAgainAtTheEnd() {
        TroubleMemory x = Steps.memory(4, 5);
        Steps.pass(x, 1);
        x.cycle(true);
        due.is(64, x.status(1), "not tested in the next cycle");
        due.is(0, x.event(1, false), "a counter at -128 already passes");
        Steps.fail(x, 1);
        x.cycle(true);
        due.is(175, x.event(1, true), "a counter at 127 already fails");
    }

    private static void conditionOff() {
        TroubleMemory x = Steps.memory(4, 5);
        x.enable(1, false);
        due.is(80, x.event(1, true), "an event that does nothing");
        due.is(0, x.stored(-1, 0), "which stores nothing");
        x.enable(1, true);
        due.is(80, x.event(1, false), "and leaves the counter where it was");
        due.is(39, x.event(1, true), "an event that does something");
        due.is(3, x.snapshot(1, 0, 1), "and all are counted");
    }

    private static void refusals() {
        TroubleMemory x = Steps.memory(4, 5);
        int[] unknown = {0, -1, 2, 201, Integer.MIN_VALUE, Integer.MAX_VALUE};
        for (int n : unknown) {
            due.is(-1, x.event(n, true), "event of code " + n);
        }
        x.cut();
        due.is(-3, x.event(1, true), "event while cut");
        due.is(-1, x.event(2, true), "event of no code while cut");
        due.is(80, x.status(1), "status behind a refused event");
        x.start();
        Steps.fail(x, 1);
        due.is(1, x.snapshot(1, 0, 1), "refused events are not counted");
    }
}
