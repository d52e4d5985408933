/** Steps that most tests take; the codes that they make fail at one event and pass at two. */
final class Steps {
    private Steps() {
    }

    /** A memory with a code for each priority, numbered from 1 on. */
    static TroubleMemory memory(int room, int... priorities) {
        TroubleMemory x = new TroubleMemory(room);
        for (int priority : priorities) {
            x.code(priority, 127, 127);
        }
        return x;
    }

    static int fail(TroubleMemory x, int code) {
        return x.event(code, true);
    }

    static int pass(TroubleMemory x, int code) {
        x.event(code, false);
        return x.event(code, false);
    }

    /** FAILED in two cycles, the second of which is still on. */
    static int confirm(TroubleMemory x, int code) {
        fail(x, code);
        x.cycle(false);
        return fail(x, code);
    }

    static void goodCycles(TroubleMemory x, int code, int count, boolean tested) {
        for (int i = 0; i < count; i++) {
            pass(x, code);
            x.cycle(tested);
        }
    }
}
