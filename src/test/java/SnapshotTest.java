/** Promise 6. */
public final class SnapshotTest {
    private static final Due due = new Due();

    public static void main(String[] args) {
        firstAndLast();
        newEntryNewSnapshots();
        refusals();
        due.end();
    }

    private static void shows(TroubleMemory x, int code, int which, int... numbers) {
        for (int i = 0; i < 4; i++) {
            due.is(numbers[i], x.snapshot(code, which, i), "snapshot(" + code + ", " + which + ", " + i + ")");
        }
    }

    private static void firstAndLast() {
        TroubleMemory x = new TroubleMemory(4);
        x.code(5, 127, 127);
        x.code(6, 90, 127);
        x.cycle(true);
        x.event(2, true);
        x.event(2, true);
        shows(x, 2, 0, 1, 2, 1, 90);
        shows(x, 2, 1, 1, 2, 1, 90);
        x.cycle(false);
        Steps.fail(x, 1);
        shows(x, 1, 0, 2, 3, 2, 127);
        Steps.pass(x, 2);
        x.event(2, true);
        x.event(2, true);
        shows(x, 2, 0, 1, 2, 1, 90);
        shows(x, 2, 1, 2, 7, 2, 90);
        x.event(2, true);
        shows(x, 2, 1, 2, 7, 2, 90);
        x.cut();
        shows(x, 2, 0, 1, 2, 1, 90);
        x.start();
        shows(x, 2, 1, 2, 7, 2, 90);
        Steps.fail(x, 1);
        shows(x, 1, 0, 2, 3, 2, 127);
        shows(x, 1, 1, 2, 9, 2, 127);
    }

    private static void newEntryNewSnapshots() {
        TroubleMemory x = Steps.memory(4, 5);
        Steps.fail(x, 1);
        x.clear(0);
        due.is(-1, x.snapshot(1, 0, 0), "behind clearing");
        x.cycle(true);
        Steps.fail(x, 1);
        shows(x, 1, 0, 1, 2, 1, 127);
        shows(x, 1, 1, 1, 2, 1, 127);
    }

    private static void refusals() {
        TroubleMemory x = Steps.memory(4, 5, 6);
        due.is(-1, x.snapshot(1, 0, 0), "no entry");
        due.is(-1, x.snapshot(1, 2, 4), "no entry, and outside the ranges");
        due.is(-1, x.snapshot(3, 2, 4), "no code, and outside the ranges");
        due.is(-1, x.snapshot(0, 0, 0), "code 0");
        due.is(-1, x.snapshot(Integer.MIN_VALUE, 0, 0), "the least code");
        due.is(-1, x.snapshot(Integer.MAX_VALUE, 0, 0), "the greatest code");
        Steps.fail(x, 1);
        int[] wrongWhich = {-1, 2, Integer.MIN_VALUE, Integer.MAX_VALUE};
        for (int which : wrongWhich) {
            due.is(-2, x.snapshot(1, which, 0), "which = " + which);
        }
        int[] wrongNumbers = {-1, 4, Integer.MIN_VALUE, Integer.MAX_VALUE};
        for (int i : wrongNumbers) {
            due.is(-2, x.snapshot(1, 0, i), "i = " + i);
            due.is(-2, x.snapshot(1, 1, i), "i = " + i + " of the last");
        }
    }
}
