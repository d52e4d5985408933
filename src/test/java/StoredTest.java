/** Promise 11. */
public final class StoredTest {
    private static final Due due = new Due();

    public static void main(String[] args) {
        order();
        refusals();
        whileCut();
        due.end();
    }

    private static void order() {
        TroubleMemory x = Steps.memory(4, 50, 20, 90);
        Steps.fail(x, 3);
        Steps.fail(x, 1);
        Steps.fail(x, 2);
        isEntry(x, 0, 3, 1, 90);
        isEntry(x, 1, 1, 1, 50);
        isEntry(x, 2, 2, 1, 20);
        due.is(3, x.stored(-1, 0), "how many there are");
        Steps.pass(x, 3);
        Steps.fail(x, 3);
        Steps.fail(x, 3);
        isEntry(x, 0, 3, 2, 90);
        due.is(3, x.stored(-1, 0), "how many there are when one happened again");
    }

    private static void isEntry(TroubleMemory x, int i, int... numbers) {
        for (int what = 0; what < 3; what++) {
            due.is(numbers[what], x.stored(i, what), "stored(" + i + ", " + what + ")");
        }
    }

    private static void refusals() {
        TroubleMemory x = Steps.memory(4, 50);
        due.is(0, x.stored(-1, 0), "none at first");
        due.is(-1, x.stored(0, 0), "no entry 0");
        due.is(-1, x.stored(0, 3), "no entry 0, and no such what");
        Steps.fail(x, 1);
        int[] wrongEntries = {1, -2, 4, Integer.MIN_VALUE, Integer.MAX_VALUE};
        for (int i : wrongEntries) {
            due.is(-1, x.stored(i, 0), "stored(" + i + ", 0)");
            due.is(-1, x.stored(i, 3), "stored(" + i + ", 3)");
        }
        due.is(-1, x.stored(-1, 1), "stored(-1, 1)");
        due.is(-1, x.stored(-1, 2), "stored(-1, 2)");
        due.is(-1, x.stored(-1, 3), "stored(-1, 3)");
        int[] wrongWhats = {-1, 3, Integer.MIN_VALUE, Integer.MAX_VALUE};
        for (int what : wrongWhats) {
            due.is(-2, x.stored(0, what), "stored(0, " + what + ")");
        }
    }

    private static void whileCut() {
        TroubleMemory x = Steps.memory(4, 50, 60);
        Steps.fail(x, 2);
        x.cut();
        due.is(1, x.stored(-1, 0), "how many while cut");
        isEntry(x, 0, 2, 1, 60);
        x.start();
        isEntry(x, 0, 2, 1, 60);
        Steps.fail(x, 2);
        isEntry(x, 0, 2, 2, 60);
    }
}
