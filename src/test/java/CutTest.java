/** Promise 12. */
public final class CutTest {
    private static final Due due = new Due();

    public static void main(String[] args) {
        TroubleMemory x = Steps.memory(4, 5, 6, 7);
        Steps.fail(x, 1);
        Steps.fail(x, 3);
        x.cycle(true);
        Steps.fail(x, 1);
        due.is(2, x.cut(), "cut()");
        due.is(-3, x.cut(), "cut() again");
        due.is(-3, x.event(2, true), "event");
        due.is(-3, x.cycle(true), "cycle");
        due.is(-3, x.clear(0), "clear");
        due.is(-3, x.code(5, 5, 5), "code");
        due.is(-3, x.parent(1, 2), "parent");
        due.is(-3, x.enable(1, false), "enable");
        due.is(175, x.status(1), "status is told as before");
        due.is(101, x.status(3), "status of another is told as before");
        due.is(1, x.lamp(0), "the lamp is told as before");
        due.is(2, x.lamp(2), "what is pending is told as before");
        due.is(0, x.age(1), "age is told as before");
        due.is(3, x.stored(1, 0), "entries are told");
        due.is(127, x.snapshot(3, 1, 3), "snapshots are told");
        due.is(-1, x.displaced(0), "what was displaced is told");
        due.is(0, new TroubleMemory(4).cut(), "cut() of an empty memory");
        agesAreToldAsBefore();
        due.end();
    }

    private static void agesAreToldAsBefore() {
        TroubleMemory x = Steps.memory(4, 5);
        Steps.confirm(x, 1);
        x.cycle(true);
        Steps.goodCycles(x, 1, 4, true);
        Steps.fail(x, 1);
        x.cut();
        due.is(0, x.age(1), "the age that a failure took, while cut");
        x.start();
        due.is(4, x.age(1), "the age that was kept, behind the start");
    }
}
