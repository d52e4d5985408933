/** Promise 2. */
public final class CodeTest {
    private static final Due due = new Due();

    public static void main(String[] args) {
        ranges();
        twoHundred();
        whileCut();
        due.end();
    }

    private static void ranges() {
        TroubleMemory x = new TroubleMemory(4);
        int[][] wrong = {
            {0, 1, 1}, {256, 1, 1}, {-1, 1, 1}, {Integer.MIN_VALUE, 1, 1}, {Integer.MAX_VALUE, 1, 1},
            {1, 0, 1}, {1, 128, 1}, {1, -1, 1}, {1, Integer.MIN_VALUE, 1}, {1, Integer.MAX_VALUE, 1},
            {1, 1, 0}, {1, 1, 128}, {1, 1, -1}, {1, 1, Integer.MIN_VALUE}, {1, 1, Integer.MAX_VALUE},
        };
        for (int[] row : wrong) {
            due.is(-2, x.code(row[0], row[1], row[2]), "code(" + row[0] + ", " + row[1] + ", " + row[2] + ")");
        }
        due.is(-1, x.status(1), "a refused code has no number");
        due.is(1, x.code(1, 1, 1), "code of the least numbers");
        due.is(2, x.code(255, 127, 127), "code of the greatest numbers");
        due.is(80, x.status(2), "status at first");
        due.is(0, x.age(2), "age at first");
    }

    private static void twoHundred() {
        TroubleMemory x = new TroubleMemory(4);
        for (int n = 1; n <= 200; n++) {
            due.is(n, x.code(5, 5, 5), "code " + n);
        }
        due.is(-4, x.code(5, 5, 5), "code 201");
        due.is(-2, x.code(0, 5, 5), "a wrong code 201");
        due.is(80, x.status(200), "status of code 200");
        due.is(-1, x.status(201), "status of code 201");
        x.cut();
        due.is(-3, x.code(5, 5, 5), "code 201 while cut");
    }

    private static void whileCut() {
        TroubleMemory x = new TroubleMemory(4);
        x.cut();
        due.is(-3, x.code(5, 5, 5), "code while cut");
        due.is(-2, x.code(5, 128, 5), "wrong code while cut");
        x.start();
        due.is(1, x.code(5, 5, 5), "code after the start");
    }
}
