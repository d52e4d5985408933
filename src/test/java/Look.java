import java.util.ArrayList;
import java.util.List;

/** Looks at an object: at what it tells, and by more calls at what it does not. */
final class Look {
    private static final int MOST_ROWS = 5;

    private final TroubleMemory x;
    private final int[] codes;
    private final List<String> rows = new ArrayList<>();

    private Look(TroubleMemory x, int[] codes) {
        this.x = x;
        this.codes = codes;
    }

    /** What it tells, without a change. */
    static List<String> told(TroubleMemory x, int... codes) {
        Look look = new Look(x, codes);
        look.tell();
        return look.rows;
    }

    /** Counters above 0, trips, conditions, parents, cycles and events. */
    static List<String> upwards(TroubleMemory x, int... codes) {
        Look look = new Look(x, codes);
        look.tell();
        look.goUp();
        return look.rows;
    }

    /** Counters below 0, and good cycles. */
    static List<String> downwards(TroubleMemory x, int... codes) {
        Look look = new Look(x, codes);
        look.tell();
        look.goDown();
        return look.rows;
    }

    /** The power, and what was kept. */
    static List<String> restarted(TroubleMemory x, int... codes) {
        Look look = new Look(x, codes);
        look.row("cut()", x.cut());
        look.tell();
        look.row("start()", x.start());
        look.tell();
        look.goUp();
        return look.rows;
    }

    private int row(String call, int answer) {
        rows.add(call + " = " + answer);
        return answer;
    }

    private void tell() {
        for (int n : codes) {
            row("status(" + n + ")", x.status(n));
            row("age(" + n + ")", x.age(n));
            tellSnapshots(n);
        }
        for (int kind = 0; kind <= 3; kind++) {
            row("lamp(" + kind + ")", x.lamp(kind));
        }
        int entries = row("stored(-1, 0)", x.stored(-1, 0));
        for (int i = 0; i < entries && i < MOST_ROWS; i++) {
            for (int what = 0; what <= 2; what++) {
                row("stored(" + i + ", " + what + ")", x.stored(i, what));
            }
        }
        int last = 0;
        for (int i = 0; last != -1 && i < MOST_ROWS; i++) {
            last = row("displaced(" + i + ")", x.displaced(i));
        }
    }

    private void tellSnapshots(int code) {
        int first = row("snapshot(" + code + ", 0, 0)", x.snapshot(code, 0, 0));
        for (int place = 1; first != -1 && place < 8; place++) {
            row("snapshot(" + code + ", " + place / 4 + ", " + place % 4 + ")",
                    x.snapshot(code, place / 4, place % 4));
        }
    }

    private void goUp() {
        for (int condition = 0; condition <= 31; condition++) {
            switchOn(condition);
        }
        countAbove();
        for (int n : codes) {
            for (int i = 1; i <= 3; i++) {
                row("event(" + n + ", true)", x.event(n, true));
            }
        }
        tell();
        row("cycle(true)", x.cycle(true));
    }

    private void goDown() {
        // The first answer does not tell whether that one was off, so that both ways are gone.
        for (int condition = 31; condition >= 0; condition--) {
            switchOn(condition);
        }
        for (int i = 1; i <= 3; i++) {
            for (int n : codes) {
                row("event(" + n + ", false)", x.event(n, false));
            }
        }
        for (int i = 1; i <= 3; i++) {
            row("cycle(true)", x.cycle(true));
            for (int n : codes) {
                row("event(" + n + ", false)", x.event(n, false));
            }
        }
        tell();
    }

    private void switchOn(int condition) {
        row("enable(" + condition + ", true)", x.enable(condition, true));
    }

    /** A code that is put under each of the others tells how many are above that one. */
    private void countAbove() {
        int added = row("code(1, 127, 127)", x.code(1, 127, 127));
        int lowest = added > 0 ? added : 199;
        for (int n : codes) {
            row("parent(" + lowest + ", " + n + ")", x.parent(lowest, n));
        }
        row("parent(" + lowest + ", 0)", x.parent(lowest, 0));
    }
}
