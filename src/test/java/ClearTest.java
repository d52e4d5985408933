/** Promise 7. */
public final class ClearTest {
    private static final Due due = new Due();

    public static void main(String[] args) {
        groups();
        clearsAll();
        counterIsNought();
        keepsWhatItClears();
        entriesOfOthersStay();
        refusals();
        due.end();
    }

    private static void groups() {
        TroubleMemory x = Steps.memory(4, 1, 32, 33, 64, 65, 224, 225, 255, 255);
        int[] due1to8 = {2, 2, 1, 0, 0, 0, 1, 3};
        for (int group = 1; group <= 8; group++) {
            due.is(due1to8[group - 1], x.clear(group), "clear(" + group + ")");
        }
        due.is(9, x.clear(0), "clear(0)");
        due.is(0, new TroubleMemory(4).clear(0), "clear(0) without a code");
    }

    private static void clearsAll() {
        TroubleMemory x = Steps.memory(4, 5);
        Steps.confirm(x, 1);
        x.cycle(true);
        Steps.goodCycles(x, 1, 2, true);
        due.is(2, x.age(1), "age before");
        due.is(1, x.clear(1), "clear(1)");
        due.is(80, x.status(1), "status");
        due.is(0, x.age(1), "age");
        due.is(0, x.stored(-1, 0), "entries");
        due.is(80, x.event(1, false), "the counter is 0: one step down is no test");
        due.is(39, Steps.fail(x, 1), "trips are 0: one failure does not confirm");
        due.is(1, x.stored(0, 1), "it happened once");
        x.cycle(true);
        Steps.fail(x, 1);
        x.cycle(true);
        Steps.goodCycles(x, 1, 2, true);
        due.is(1, x.lamp(0), "good cycles are 0: two do not darken");
    }

    private static void counterIsNought() {
        TroubleMemory x = new TroubleMemory(4);
        x.code(5, 126, 127);
        x.event(1, true);
        x.clear(0);
        due.is(80, x.event(1, true), "126 is no test");
        due.is(39, x.event(1, true), "127 is one");
    }

    private static void keepsWhatItClears() {
        TroubleMemory x = Steps.memory(4, 5, 40);
        Steps.fail(x, 1);
        Steps.fail(x, 2);
        x.cycle(true);
        x.clear(1);
        x.cut();
        due.is(1, x.start(), "entries behind the start");
        due.is(80, x.status(1), "the cleared one was kept cleared");
        due.is(101, x.status(2), "the other was kept as it was");
        due.is(39, Steps.fail(x, 1), "the cleared one has no trips");
        due.is(175, Steps.fail(x, 2), "the other has one");
    }

    private static void entriesOfOthersStay() {
        TroubleMemory x = Steps.memory(4, 40, 5, 40, 6);
        for (int n = 1; n <= 4; n++) {
            Steps.fail(x, n);
        }
        due.is(2, x.clear(2), "clear(2)");
        due.is(2, x.stored(-1, 0), "entries that stay");
        due.is(2, x.stored(0, 0), "first entry");
        due.is(4, x.stored(1, 0), "second entry");
        due.is(-1, x.displaced(0), "cleared is not displaced");
        Steps.fail(x, 1);
        due.is(1, x.stored(2, 0), "it comes back behind all others");
    }

    private static void refusals() {
        TroubleMemory x = Steps.memory(4, 5);
        Steps.fail(x, 1);
        int[] wrong = {-1, 9, Integer.MIN_VALUE, Integer.MAX_VALUE};
        for (int group : wrong) {
            due.is(-2, x.clear(group), "clear(" + group + ")");
        }
        x.enable(31, false);
        due.is(-3, x.clear(0), "clear(0) with condition 31 off");
        due.is(-2, x.clear(9), "clear(9) with condition 31 off");
        x.enable(31, true);
        x.cut();
        due.is(-3, x.clear(0), "clear(0) while cut");
        due.is(-2, x.clear(9), "clear(9) while cut");
        due.is(1, x.stored(-1, 0), "refusals leave the entry");
        due.is(39, x.status(1), "refusals leave the status");
        x.start();
        for (int condition = 0; condition < 31; condition++) {
            x.enable(condition, false);
        }
        due.is(1, x.clear(0), "clear(0) with all the other conditions off");
    }
}
