/** Promise 10. */
public final class LampTest {
    private static final Due due = new Due();

    public static void main(String[] args) {
        TroubleMemory x = Steps.memory(1, 5, 6, 70, 71);
        shows(x, 0, 0, 0, 0);
        Steps.confirm(x, 3);
        shows(x, 0, 1, 1, 1);
        Steps.fail(x, 4);
        shows(x, 0, 1, 2, 2);
        Steps.pass(x, 4);
        shows(x, 0, 1, 2, 1);
        Steps.confirm(x, 1);
        Steps.confirm(x, 2);
        shows(x, 1, 3, 4, 3);
        x.cut();
        shows(x, 1, 3, 4, 3);
        int[] wrong = {-1, 4, Integer.MIN_VALUE, Integer.MAX_VALUE};
        for (int kind : wrong) {
            due.is(-2, x.lamp(kind), "lamp(" + kind + ") while cut");
        }
        x.start();
        // The second cycle of code 2 was never kept, so it is pending and failed, not confirmed.
        shows(x, 1, 2, 4, 3);
        for (int kind : wrong) {
            due.is(-2, x.lamp(kind), "lamp(" + kind + ")");
        }
        x.clear(0);
        shows(x, 0, 0, 0, 0);
        due.end();
    }

    private static void shows(TroubleMemory x, int... numbers) {
        for (int kind = 0; kind < 4; kind++) {
            due.is(numbers[kind], x.lamp(kind), "lamp(" + kind + ")");
        }
    }
}
