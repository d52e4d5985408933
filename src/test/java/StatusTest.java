/** Promise 5. */
public final class StatusTest {
    private static final Due due = new Due();

    public static void main(String[] args) {
        TroubleMemory x = Steps.memory(4, 5, 6);
        int[] unknown = {0, -1, 3, 200, Integer.MIN_VALUE, Integer.MAX_VALUE};
        for (int n : unknown) {
            due.is(-1, x.status(n), "status(" + n + ")");
        }
        due.is(80, x.status(1), "at first");
        Steps.fail(x, 1);
        due.is(39, x.status(1), "failed");
        due.is(39, x.status(1), "failed, asked again");
        due.is(80, x.status(2), "the other code");
        Steps.pass(x, 1);
        due.is(38, x.status(1), "passed");
        x.cut();
        due.is(38, x.status(1), "while cut");
        due.is(-1, x.status(3), "no code while cut");
        x.start();
        due.is(80, x.status(1), "behind the start, as nothing was kept");
        due.end();
    }
}
