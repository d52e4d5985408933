/** Promise 9. */
public final class EnableTest {
    private static final Due due = new Due();

    public static void main(String[] args) {
        counts();
        belongsToCodes();
        refusals();
        due.end();
    }

    private static void counts() {
        TroubleMemory x = new TroubleMemory(4);
        due.is(32, x.enable(7, true), "all are on at first");
        for (int condition = 0; condition < 32; condition++) {
            due.is(31 - condition, x.enable(condition, false), "enable(" + condition + ", false)");
            due.is(31 - condition, x.enable(condition, false), "enable(" + condition + ", false) again");
        }
        due.is(1, x.enable(31, true), "enable(31, true)");
        due.is(2, x.enable(0, true), "enable(0, true)");
        x.cut();
        x.start();
        due.is(32, x.enable(5, true), "all are on behind the start");
    }

    private static void belongsToCodes() {
        TroubleMemory x = new TroubleMemory(4);
        for (int n = 1; n <= 64; n++) {
            x.code(5, 127, 127);
        }
        x.enable(0, false);
        due.is(80, x.event(32, true), "code 32 has condition 0");
        due.is(80, x.event(64, true), "code 64 has condition 0");
        due.is(39, x.event(33, true), "code 33 has condition 1");
        x.enable(31, false);
        due.is(80, x.event(31, true), "code 31 has condition 31");
        due.is(80, x.event(63, true), "code 63 has condition 31");
        x.enable(1, false);
        due.is(39, x.event(33, false), "code 33 is off now");
        due.is(39, x.event(33, false), "code 33 does not pass");
    }

    private static void refusals() {
        TroubleMemory x = new TroubleMemory(4);
        int[] wrong = {-1, 32, Integer.MIN_VALUE, Integer.MAX_VALUE};
        for (int condition : wrong) {
            due.is(-1, x.enable(condition, false), "enable(" + condition + ", false)");
        }
        x.cut();
        due.is(-3, x.enable(3, false), "while cut");
        due.is(-1, x.enable(32, false), "no condition while cut");
        x.start();
        due.is(32, x.enable(0, true), "refusals put none off");
    }
}
