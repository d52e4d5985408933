/** Promise 14, with what the terms say of a memory that is full. */
public final class DisplacedTest {
    private static final Due due = new Due();

    public static void main(String[] args) {
        lowestPriorityGoes();
        notFailedGoesFirst();
        lowerFailedBeforeHigherPassed();
        samePriority();
        nothingMayGo();
        displacedOneComesBack();
        manyGo();
        noRoomAtAll();
        refusals();
        due.end();
    }

    private static void entries(TroubleMemory x, int... codes) {
        due.is(codes.length, x.stored(-1, 0), "how many entries");
        for (int i = 0; i < codes.length; i++) {
            due.is(codes[i], x.stored(i, 0), "entry " + i);
        }
    }

    private static void displaced(TroubleMemory x, int... codes) {
        for (int i = 0; i < codes.length; i++) {
            due.is(codes[i], x.displaced(i), "displaced(" + i + ")");
        }
        due.is(-1, x.displaced(codes.length), "displaced(" + codes.length + ")");
    }

    private static void lowestPriorityGoes() {
        TroubleMemory x = Steps.memory(3, 20, 40, 30, 10);
        for (int n = 1; n <= 4; n++) {
            Steps.fail(x, n);
        }
        entries(x, 1, 3, 4);
        displaced(x, 2);
        due.is(-1, x.snapshot(2, 0, 0), "the displaced one's snapshot");
        due.is(39, x.status(2), "the displaced one's status stays");
    }

    private static void notFailedGoesFirst() {
        TroubleMemory x = Steps.memory(4, 40, 40, 40, 40, 10, 9);
        for (int n = 1; n <= 4; n++) {
            Steps.fail(x, n);
        }
        Steps.pass(x, 2);
        Steps.pass(x, 3);
        Steps.fail(x, 5);
        entries(x, 1, 3, 4, 5);
        Steps.fail(x, 3);
        Steps.fail(x, 6);
        entries(x, 3, 4, 5, 6);
        displaced(x, 2, 1);
    }

    private static void lowerFailedBeforeHigherPassed() {
        TroubleMemory x = Steps.memory(2, 30, 40, 10);
        Steps.fail(x, 1);
        Steps.pass(x, 1);
        Steps.fail(x, 2);
        Steps.fail(x, 3);
        entries(x, 1, 3);
        displaced(x, 2);
    }

    private static void samePriority() {
        TroubleMemory x = Steps.memory(2, 30, 30, 30, 30);
        Steps.fail(x, 1);
        Steps.fail(x, 2);
        Steps.fail(x, 3);
        entries(x, 1, 2);
        displaced(x);
        Steps.pass(x, 2);
        Steps.fail(x, 4);
        entries(x, 1, 4);
        displaced(x, 2);
    }

    private static void nothingMayGo() {
        TroubleMemory x = Steps.memory(2, 10, 20, 21);
        Steps.fail(x, 1);
        Steps.fail(x, 2);
        Steps.pass(x, 1);
        Steps.pass(x, 2);
        due.is(39, Steps.fail(x, 3), "a code that is not stored");
        entries(x, 1, 2);
        displaced(x);
    }

    private static void displacedOneComesBack() {
        TroubleMemory x = Steps.memory(1, 20, 20);
        Steps.fail(x, 1);
        Steps.pass(x, 1);
        Steps.fail(x, 2);
        Steps.pass(x, 2);
        Steps.fail(x, 1);
        displaced(x, 1, 2);
        due.is(1, x.stored(0, 1), "it happened once in its new entry");
        due.is(7, x.snapshot(1, 0, 1), "its first snapshot is a new one");
    }

    private static void manyGo() {
        TroubleMemory x = new TroubleMemory(1);
        for (int n = 1; n <= 200; n++) {
            x.code(201 - n, 127, 127);
            x.event(n, true);
        }
        due.is(200, x.stored(0, 0), "the last one is stored");
        for (int i = 0; i < 20; i++) {
            due.is(i + 1, x.displaced(i), "displaced(" + i + ")");
        }
        due.is(199, x.displaced(198), "displaced(198)");
        due.is(-1, x.displaced(199), "displaced(199)");
    }

    private static void noRoomAtAll() {
        TroubleMemory x = Steps.memory(0, 20, 10);
        Steps.fail(x, 1);
        due.is(39, Steps.fail(x, 2), "status without any room");
        entries(x);
        displaced(x);
    }

    private static void refusals() {
        TroubleMemory x = Steps.memory(1, 20, 10);
        Steps.fail(x, 1);
        Steps.fail(x, 2);
        int[] wrong = {-1, 1, 499, 500, Integer.MIN_VALUE, Integer.MAX_VALUE};
        for (int i : wrong) {
            due.is(-1, x.displaced(i), "displaced(" + i + ")");
        }
        x.cut();
        displaced(x, 1);
    }
}
