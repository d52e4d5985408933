/** Edges of promises 1, 2, 7, 8 and 9: rooms, numbers, ranges, groups, conditions, parents. */
public final class EdgeCodesTest {
    private static final int LEAST = Integer.MIN_VALUE;
    private static final int MOST = Integer.MAX_VALUE;

    public static void main(String[] args) {
        Edges.run(EdgeCodesTest.class);
    }

    private static TroubleMemory withCodes(int room, int count) {
        TroubleMemory x = new TroubleMemory(room);
        for (int n = 1; n <= count; n++) {
            x.code(100, 127, 127);
        }
        return x;
    }

    /** How many of so many codes that fail have an entry. */
    private static int entriesOf(int room, int codes) {
        TroubleMemory x = withCodes(room, codes);
        for (int n = 1; n <= codes; n++) {
            Steps.fail(x, n);
        }
        return x.stored(-1, 0);
    }

    @Holds(Sentence.CALLS)
    static void theLastCallIsAnsweredAsTheFirst() {
        TroubleMemory x = new TroubleMemory(1);
        for (int n = 1; n <= 512; n++) {
            Edges.due(n, x.cycle(true), "call " + n + ", cycle(true)");
        }
        TroubleMemory y = Steps.memory(1, 5);
        for (int i = 2; i <= 510; i++) {
            y.event(1, false);
        }
        Edges.due(39, Steps.fail(y, 1), "call 511, event(1, true)");
        Edges.due(510, y.snapshot(1, 1, 1), "call 512, how many events there were");
    }

    @Holds(Sentence.CALLS)
    static void laterCallsEndWithoutAThrow() {
        TroubleMemory x = withCodes(1, 200);
        int[] odd = {LEAST, -2, -1, 0, 1, 2, 3, 8, 9, 31, 32, 200, 201, 499, 500, MOST};
        for (int i = 0; i < 20000; i++) {
            int a = odd[i % odd.length];
            int n = 1 + i * 7 % 200;
            x.event(n, i % 3 != 0);
            x.event(a, i % 2 == 0);
            x.displaced(i % 600);
            x.snapshot(n, i % 3, i % 5);
            x.stored(i % 4 - 1, i % 5 - 1);
            x.parent(n, a);
            x.lamp(a);
            x.age(a);
            x.status(a);
            x.enable(a, i % 5 != 0);
            x.code(a, 1, 1);
            if (i % 11 == 0) {
                x.cycle(i % 2 == 0);
            }
            if (i % 97 == 0) {
                x.clear(a);
            }
            if (i % 101 == 0) {
                x.cut();
            }
            if (i % 103 == 0) {
                x.start();
            }
        }
    }

    @Holds(Sentence.NUMBERS)
    static void numbersGoFrom1To200() {
        TroubleMemory x = new TroubleMemory(1);
        Edges.due(-1, x.status(1), "status(1) before there is a code");
        for (int n = 1; n <= 200; n++) {
            Edges.due(n, x.code(1, 1, 1), "code " + n);
        }
        Edges.due(-4, x.code(1, 1, 1), "one code more");
        Edges.due(-1, x.status(0), "status(0)");
        Edges.due(80, x.status(1), "status(1)");
        Edges.due(80, x.status(200), "status(200)");
        Edges.due(-1, x.status(201), "status(201)");
    }

    @Holds(Sentence.NUMBERS)
    static void aRefusedCodeTakesNoNumber() {
        TroubleMemory x = new TroubleMemory(1);
        x.code(0, 1, 1);
        Edges.due(1, x.code(1, 1, 1), "the first code behind a refused one");
        x.code(1, 128, 1);
        x.cut();
        x.code(1, 1, 1);
        x.start();
        Edges.due(2, x.code(1, 1, 1), "the second code behind two refused ones");
    }

    @Holds(Sentence.PRIORITIES)
    static void prioritiesGoFrom1To255() {
        int[] right = {1, 2, 254, 255};
        for (int priority : right) {
            TroubleMemory x = new TroubleMemory(1);
            Edges.due(1, x.code(priority, 127, 1), "code(" + priority + ", 127, 1)");
            Steps.fail(x, 1);
            Edges.due(priority, x.stored(0, 2), "its priority");
        }
        int[] wrong = {LEAST, -255, -1, 0, 256, 257, MOST};
        for (int priority : wrong) {
            Edges.due(-2, new TroubleMemory(1).code(priority, 127, 1), "code(" + priority + ", 127, 1)");
        }
    }

    @Holds(Sentence.PRIORITIES)
    static void priority1IsTheHighest() {
        TroubleMemory x = Steps.memory(1, 255, 2, 1, 2, 255);
        int[] held = {1, 2, 3, 3, 3};
        for (int n = 1; n <= 5; n++) {
            Steps.fail(x, n);
            Edges.due(held[n - 1], x.stored(0, 0), "whose the one entry is when code " + n + " has failed");
        }
    }

    @Holds(Sentence.STEPS)
    static void stepsGoFrom1To127() {
        int[] right = {1, 2, 126, 127};
        int[] wrong = {LEAST, -127, -1, 0, 128, 129, MOST};
        for (int step : right) {
            Edges.due(1, new TroubleMemory(1).code(1, step, 1), "code(1, " + step + ", 1)");
            Edges.due(1, new TroubleMemory(1).code(1, 1, step), "code(1, 1, " + step + ")");
        }
        for (int step : wrong) {
            Edges.due(-2, new TroubleMemory(1).code(1, step, 1), "code(1, " + step + ", 1)");
            Edges.due(-2, new TroubleMemory(1).code(1, 1, step), "code(1, 1, " + step + ")");
        }
    }

    @Holds(Sentence.STEPS)
    static void upIsNotDown() {
        TroubleMemory x = new TroubleMemory(1);
        x.code(1, 127, 1);
        x.code(1, 1, 127);
        Edges.due(39, x.event(1, true), "UP 127");
        Edges.due(80, x.event(2, true), "UP 1");
        Edges.due(0, Steps.pass(x, 2), "two steps of DOWN 127");
        Edges.due(39, Steps.pass(x, 1), "two steps of DOWN 1");
    }

    @Holds(Sentence.GROUP)
    static void eachPriorityIsInOneGroup() {
        int[] last = {32, 64, 96, 128, 160, 192, 224, 255};
        for (int priority = 1; priority <= 255; priority++) {
            TroubleMemory x = Steps.memory(1, priority);
            int least = 1;
            for (int group = 1; group <= 8; group++) {
                boolean in = priority >= least && priority <= last[group - 1];
                Edges.due(in ? 1 : 0, x.clear(group), "clear(" + group + ") with a code of priority " + priority);
                least = last[group - 1] + 1;
            }
        }
    }

    @Holds(Sentence.CONDITION)
    static void eachNumberHasOneCondition() {
        for (int condition = 0; condition <= 31; condition++) {
            TroubleMemory x = withCodes(1, 200);
            x.enable(condition, false);
            for (int n = 1; n <= 200; n++) {
                boolean off = n == condition || n == condition + 32 || n == condition + 64 || n == condition + 96
                        || n == condition + 128 || n == condition + 160 || n == condition + 192;
                Edges.due(off ? 80 : 39, Steps.fail(x, n), "event(" + n + ", true), condition " + condition + " off");
            }
        }
    }

    @Holds(Sentence.ALL_ON)
    static void allConditionsAreOnAtFirst() {
        for (int condition = 0; condition <= 31; condition++) {
            Edges.due(32, new TroubleMemory(1).enable(condition, true), "enable(" + condition + ", true)");
            Edges.due(31, new TroubleMemory(1).enable(condition, false), "enable(" + condition + ", false)");
        }
        Edges.due(0, new TroubleMemory(1).clear(0), "clear(0), which asks for condition 31");
    }

    @Holds(Sentence.PARENT)
    static void thereIsNoParentAtFirst() {
        TroubleMemory x = Steps.memory(3, 5, 5, 5);
        for (int n = 1; n <= 3; n++) {
            Steps.fail(x, n);
        }
        Edges.due(3, x.stored(-1, 0), "entries of codes without a parent");
        Edges.due(1, x.parent(2, 1), "parent(2, 1), a code that has none itself");
        Edges.due(1, x.parent(3, 1), "parent(3, 1), two codes may have the same one");
    }

    @Holds(Sentence.PARENT)
    static void aCodeIsNotItsOwnParent() {
        TroubleMemory x = withCodes(1, 200);
        Edges.due(-2, x.parent(1, 1), "parent(1, 1)");
        Edges.due(-2, x.parent(200, 200), "parent(200, 200)");
    }

    @Holds(Sentence.ROOM)
    static void noRoomHoldsNothing() {
        TroubleMemory x = Steps.memory(0, 1, 255);
        Edges.due(39, Steps.fail(x, 2), "event(2, true)");
        Edges.due(39, Steps.fail(x, 1), "event(1, true)");
        Edges.due(0, x.stored(-1, 0), "stored(-1, 0)");
        Edges.due(-1, x.stored(0, 0), "stored(0, 0)");
        Edges.due(-1, x.snapshot(1, 0, 0), "snapshot(1, 0, 0)");
        Edges.due(-1, x.displaced(0), "displaced(0)");
        Edges.due(2, x.lamp(3), "lamp(3)");
    }

    @Holds(Sentence.ROOM)
    static void roomForOneHoldsOne() {
        Edges.due(0, entriesOf(1, 0), "entries of no code");
        Edges.due(1, entriesOf(1, 1), "entries of one code");
        Edges.due(1, entriesOf(1, 2), "entries of two codes");
    }

    @Holds(Sentence.ROOM)
    static void aFullMemoryHoldsItsRoom() {
        for (int room = 2; room <= 9; room++) {
            Edges.due(room - 1, entriesOf(room, room - 1), "entries, one below the room " + room);
            Edges.due(room, entriesOf(room, room), "entries, as many as the room " + room);
            Edges.due(room, entriesOf(room, room + 1), "entries, one above the room " + room);
        }
        Edges.due(199, entriesOf(199, 200), "entries of 200 codes with room 199");
        Edges.due(200, entriesOf(200, 200), "entries of 200 codes with room 200");
        Edges.due(200, entriesOf(201, 200), "entries of 200 codes with room 201");
    }

    @Holds(Sentence.NEW_ROOM)
    static void roomsGoFrom0To65536() {
        Edges.due(0, entriesOf(0, 20), "entries with room 0");
        Edges.due(1, entriesOf(1, 20), "entries with room 1");
        Edges.due(200, entriesOf(65535, 200), "entries with room 65535");
        Edges.due(200, entriesOf(65536, 200), "entries with room 65536");
    }

    @Holds(Sentence.NEW_ROOM)
    static void anyOtherRoomIs8() {
        int[] others = {LEAST, -65536, -2, -1, 65537, 65538, MOST - 1, MOST};
        for (int room : others) {
            Edges.due(7, entriesOf(room, 7), "entries of 7 codes with room " + room);
            Edges.due(8, entriesOf(room, 8), "entries of 8 codes with room " + room);
            Edges.due(8, entriesOf(room, 9), "entries of 9 codes with room " + room);
        }
    }

    @Holds(Sentence.NEW_POWER)
    static void thePowerIsOn() {
        int[] rooms = {0, 1, 65536, -1};
        for (int room : rooms) {
            Edges.due(-3, new TroubleMemory(room).start(), "start() at first");
            Edges.due(0, new TroubleMemory(room).cut(), "cut() at first");
            Edges.due(1, new TroubleMemory(room).cycle(false), "cycle(false) at first");
        }
    }

    @Holds(Sentence.NEW_POWER)
    static void aNewObjectIsEmpty() {
        TroubleMemory x = new TroubleMemory(4);
        for (int kind = 0; kind <= 3; kind++) {
            Edges.due(0, x.lamp(kind), "lamp(" + kind + ") without a code");
        }
        Edges.due(0, x.stored(-1, 0), "stored(-1, 0) without a code");
        Edges.due(-1, x.stored(0, 0), "stored(0, 0) without a code");
        Edges.due(-1, x.displaced(0), "displaced(0) without a code");
        Edges.due(-1, x.event(1, true), "event(1, true) without a code");
        Edges.due(-1, x.snapshot(1, 0, 0), "snapshot(1, 0, 0) without a code");
        Edges.due(-1, x.parent(1, 0), "parent(1, 0) without a code");
        Edges.due(-1, x.status(1), "status(1) without a code");
        Edges.due(-1, x.age(1), "age(1) without a code");
        for (int group = 0; group <= 8; group++) {
            Edges.due(0, x.clear(group), "clear(" + group + ") without a code");
        }
    }

    @Holds(Sentence.CODE)
    static void aCodeAnswersItsNumber() {
        TroubleMemory x = new TroubleMemory(0);
        Edges.due(1, x.code(255, 127, 127), "the first");
        Edges.due(2, x.code(255, 127, 127), "the second, with the same numbers");
        x.clear(0);
        Edges.due(3, x.code(1, 1, 1), "the third, behind a clearing");
    }

    @Holds(Sentence.PARENT_COUNT)
    static void from0To199AreAbove() {
        TroubleMemory x = withCodes(1, 200);
        Edges.due(0, x.parent(1, 0), "parent(1, 0)");
        for (int n = 2; n <= 200; n++) {
            Edges.due(n - 1, x.parent(n, n - 1), "parent(" + n + ", " + (n - 1) + ")");
        }
        Edges.due(1, x.parent(200, 1), "parent(200, 1), in the place of 199");
        Edges.due(0, x.parent(200, 0), "parent(200, 0)");
        Edges.due(0, x.parent(200, 0), "parent(200, 0) once more");
        Edges.due(1, x.parent(1, 200), "parent(1, 200), which is under none now");
        Edges.due(199, x.parent(199, 198), "parent(199, 198), once more");
    }

    @Holds(Sentence.PARENT_COUNT)
    static void aParentTakenAwayHidesNoMore() {
        TroubleMemory x = Steps.memory(2, 5, 5);
        x.parent(2, 1);
        x.parent(2, 0);
        Steps.fail(x, 1);
        Steps.fail(x, 2);
        Edges.due(2, x.stored(-1, 0), "entries");
    }

    @Holds(Sentence.ENABLE)
    static void from0To32AreOn() {
        TroubleMemory x = new TroubleMemory(1);
        for (int condition = 0; condition <= 31; condition++) {
            Edges.due(31 - condition, x.enable(condition, false), "enable(" + condition + ", false)");
            Edges.due(31 - condition, x.enable(condition, false), "enable(" + condition + ", false) once more");
        }
        for (int condition = 0; condition <= 31; condition++) {
            Edges.due(condition + 1, x.enable(condition, true), "enable(" + condition + ", true)");
            Edges.due(condition + 1, x.enable(condition, true), "enable(" + condition + ", true) once more");
        }
    }

    @Holds(Sentence.ENABLE)
    static void fromNowOn() {
        TroubleMemory x = withCodes(4, 32);
        x.enable(31, false);
        x.enable(0, false);
        Edges.due(80, Steps.fail(x, 31), "code 31, whose condition is off");
        Edges.due(80, Steps.fail(x, 32), "code 32, whose condition 0 is off");
        x.enable(31, true);
        x.enable(0, true);
        Edges.due(39, Steps.fail(x, 31), "code 31, whose condition is on again");
        Edges.due(39, Steps.fail(x, 32), "code 32, whose condition 0 is on again");
        x.enable(31, false);
        Edges.due(39, Steps.pass(x, 31), "code 31 stays FAILED while its condition is off");
        Edges.due(2, x.lamp(3), "and is still told");
    }

    @Holds(Sentence.CLEAR)
    static void aGroupWithoutACodeIs0() {
        TroubleMemory x = Steps.memory(2, 32, 65);
        int[] due1to8 = {1, 0, 1, 0, 0, 0, 0, 0};
        for (int group = 1; group <= 8; group++) {
            Edges.due(due1to8[group - 1], x.clear(group), "clear(" + group + ")");
        }
        Edges.due(2, x.clear(0), "clear(0)");
    }

    @Holds(Sentence.CLEAR)
    static void twoHundredAreCleared() {
        TroubleMemory x = withCodes(200, 200);
        for (int n = 1; n <= 200; n++) {
            Steps.fail(x, n);
        }
        Edges.due(0, x.clear(3), "clear(3), below the group of priority 100");
        Edges.due(0, x.clear(5), "clear(5), above the group of priority 100");
        Edges.due(200, x.lamp(3), "how many are FAILED");
        Edges.due(200, x.clear(4), "clear(4)");
        Edges.due(0, x.lamp(3), "how many are FAILED behind it");
        Edges.due(0, x.lamp(2), "how many are PENDING behind it");
        Edges.due(0, x.stored(-1, 0), "entries behind it");
        Edges.due(80, x.status(1), "status(1)");
        Edges.due(80, x.status(200), "status(200)");
        Edges.due(200, x.clear(0), "clear(0)");
    }

    @Holds(Sentence.CLEAR)
    static void allNumbersBecome0() {
        TroubleMemory x = new TroubleMemory(2);
        x.code(5, 126, 127);
        for (int i = 1; i <= 2; i++) {
            x.event(1, true);
            x.event(1, true);
            x.cycle(false);
        }
        Steps.goodCycles(x, 1, 2, true);
        x.event(1, true);
        Edges.due(2, x.age(1), "its age before");
        Edges.due(1, x.clear(1), "clear(1)");
        Edges.due(80, x.status(1), "its status");
        Edges.due(0, x.age(1), "its age");
        Edges.due(-1, x.snapshot(1, 0, 0), "its snapshot");
        Edges.due(80, x.event(1, true), "its counter was 0, and is 126");
        Edges.due(39, x.event(1, true), "its trips were 0, and are 1");
        Edges.due(1, x.stored(0, 1), "how often it happened");
    }

    @Holds(Sentence.CLEAR)
    static void aCounterBelow0Becomes0() {
        TroubleMemory x = Steps.memory(2, 5);
        x.event(1, false);
        x.clear(0);
        Edges.due(80, x.event(1, false), "-127 is no test");
        Edges.due(0, x.event(1, false), "-128 is one");
    }
}
