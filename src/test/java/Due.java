/** Counts the answers that are not the ones that are due, and tells them. */
final class Due {
    private int wrong = 0;

    void is(int want, int got, String what) {
        if (got != want) {
            wrong++;
            System.out.println(what + ": answered " + got + ", due is " + want);
        }
    }

    void end() {
        if (wrong != 0) {
            System.out.println(wrong + " answers are not as due");
            System.exit(1);
        }
    }
}
