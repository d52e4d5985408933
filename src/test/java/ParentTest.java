/** Promise 8. */
public final class ParentTest {
    private static final Due due = new Due();

    public static void main(String[] args) {
        countsAbove();
        longestChain();
        hides();
        refusals();
        due.end();
    }

    private static void countsAbove() {
        TroubleMemory x = Steps.memory(4, 5, 5, 5, 5);
        due.is(1, x.parent(1, 2), "1 under 2");
        due.is(1, x.parent(3, 4), "3 under 4");
        due.is(2, x.parent(2, 3), "2 under 3 and 4");
        due.is(3, x.parent(1, 2), "1 under 2, 3 and 4");
        due.is(0, x.parent(2, 0), "2 under none");
        due.is(1, x.parent(1, 2), "1 under 2 alone");
        due.is(2, x.parent(4, 1), "4 may stand under 1 now");
        due.is(0, x.parent(4, 0), "a parent can be taken away");
        due.is(0, x.parent(4, 0), "and again");
    }

    private static void longestChain() {
        TroubleMemory x = new TroubleMemory(4);
        for (int n = 1; n <= 200; n++) {
            x.code(5, 127, 127);
        }
        for (int n = 2; n <= 200; n++) {
            due.is(n - 1, x.parent(n, n - 1), "code " + n + " of a long chain");
        }
        due.is(-3, x.parent(1, 200), "the chain does not close");
        Steps.fail(x, 1);
        Steps.fail(x, 200);
        due.is(1, x.stored(-1, 0), "the uppermost hides the lowest");
    }

    private static void hides() {
        TroubleMemory x = Steps.memory(4, 5, 6, 7);
        x.parent(2, 1);
        x.parent(3, 2);
        Steps.fail(x, 1);
        due.is(39, Steps.fail(x, 3), "a hidden code's status");
        due.is(1, x.stored(-1, 0), "a hidden code is not stored");
        Steps.pass(x, 1);
        due.is(39, Steps.fail(x, 3), "failed already");
        due.is(1, x.stored(-1, 0), "it is not stored later while it stays failed");
        Steps.pass(x, 3);
        Steps.fail(x, 3);
        due.is(2, x.stored(-1, 0), "stored when none above it is failed");
        Steps.pass(x, 3);
        Steps.fail(x, 1);
        Steps.fail(x, 3);
        due.is(1, x.stored(1, 1), "an entry does not happen again while hidden");
        due.is(2, x.stored(0, 1), "a child hides no parent");
    }

    private static void refusals() {
        TroubleMemory x = Steps.memory(4, 5, 5, 5);
        x.parent(2, 1);
        x.parent(3, 2);
        due.is(-1, x.parent(4, 1), "no code");
        due.is(-1, x.parent(1, 4), "no other");
        due.is(-1, x.parent(0, 0), "code 0");
        due.is(-1, x.parent(0, 1), "code 0 under 1");
        due.is(-1, x.parent(4, 4), "no code under itself");
        due.is(-1, x.parent(1, -1), "under -1");
        due.is(-1, x.parent(Integer.MIN_VALUE, 1), "the least code");
        due.is(-1, x.parent(1, Integer.MAX_VALUE), "the greatest other");
        due.is(-2, x.parent(1, 1), "the same one");
        due.is(-3, x.parent(1, 2), "the code is right above");
        due.is(-3, x.parent(1, 3), "the code is far above");
        x.cut();
        due.is(-3, x.parent(3, 1), "while cut");
        due.is(-3, x.parent(3, 0), "none, while cut");
        due.is(-2, x.parent(1, 1), "the same one while cut");
        due.is(-1, x.parent(1, 4), "no other while cut");
        x.start();
        due.is(2, x.parent(3, 2), "refusals and a cut leave the parents");
    }
}
