/** Edges of promises 6, 11 and 14: a memory that is empty or full, which entry goes, snapshots. */
public final class EdgeMemoryTest {
    public static void main(String[] args) {
        Edges.run(EdgeMemoryTest.class);
    }

    private static void failAll(TroubleMemory x, int... codes) {
        for (int n : codes) {
            Steps.fail(x, n);
        }
    }

    /** The entries are those of these codes, in this order. */
    private static void entries(TroubleMemory x, String what, int... codes) {
        Edges.due(codes.length, x.stored(-1, 0), what + ", how many entries");
        for (int i = 0; i < codes.length; i++) {
            Edges.due(codes[i], x.stored(i, 0), what + ", entry " + i);
        }
        Edges.due(-1, x.stored(codes.length, 0), what + ", behind the last entry");
    }

    private static void displaced(TroubleMemory x, String what, int... codes) {
        for (int i = 0; i < codes.length; i++) {
            Edges.due(codes[i], x.displaced(i), what + ", displaced " + i);
        }
        Edges.due(-1, x.displaced(codes.length), what + ", behind the last displaced");
    }

    @Holds(Sentence.HAPPENED)
    static void onceMoreEachTime() {
        TroubleMemory x = Steps.memory(1, 5);
        for (int happened = 1; happened <= 4; happened++) {
            Steps.fail(x, 1);
            Edges.due(happened, x.stored(0, 1), "how often it happened");
            Edges.due(1, x.stored(-1, 0), "how many entries");
            Edges.due(1, x.snapshot(1, 0, 1), "its first snapshot");
            Edges.due(3 * happened - 2, x.snapshot(1, 1, 1), "its last snapshot");
            Steps.pass(x, 1);
        }
    }

    @Holds(Sentence.HAPPENED)
    static void asOftenAsCallsAllow() {
        TroubleMemory x = Steps.memory(1, 5);
        for (int i = 1; i <= 169; i++) {
            Steps.fail(x, 1);
            Steps.pass(x, 1);
        }
        Steps.fail(x, 1);
        Edges.due(170, x.stored(0, 1), "how often it happened");
        Edges.due(508, x.snapshot(1, 1, 1), "its last snapshot");
    }

    /** No 512 calls come so far: this is more than the document asks for. */
    @Holds(Sentence.HAPPENED)
    static void atMost255() {
        TroubleMemory x = Steps.memory(1, 5);
        for (int i = 1; i <= 257; i++) {
            Steps.fail(x, 1);
            Edges.due(Math.min(i, 255), x.stored(0, 1), "how often it happened, behind failure " + i);
            Edges.due(3 * i - 2, x.snapshot(1, 1, 1), "its last snapshot, behind failure " + i);
            Steps.pass(x, 1);
        }
    }

    @Holds(Sentence.HAPPENED)
    static void inAFullMemoryTheEntryKeepsItsPlace() {
        TroubleMemory x = Steps.memory(2, 5, 5);
        failAll(x, 1, 2);
        Steps.pass(x, 1);
        Steps.fail(x, 1);
        entries(x, "behind a second failure", 1, 2);
        displaced(x, "behind a second failure");
        Edges.due(2, x.stored(0, 1), "how often code 1 happened");
        Edges.due(1, x.stored(1, 1), "how often code 2 happened");
    }

    @Holds(Sentence.NEW_ENTRY)
    static void behindAllOthersWhateverTheirPriority() {
        TroubleMemory x = Steps.memory(3, 1, 255, 128);
        entries(x, "at first");
        failAll(x, 2);
        entries(x, "with one", 2);
        failAll(x, 1);
        entries(x, "with two", 2, 1);
        failAll(x, 3);
        entries(x, "when it is full", 2, 1, 3);
        displaced(x, "when it is full");
    }

    @Holds(Sentence.NEW_ENTRY)
    static void happenedOnceWithBothSnapshots() {
        TroubleMemory x = Steps.memory(1, 5, 5);
        x.cycle(true);
        x.event(2, false);
        Steps.fail(x, 1);
        int[] taken = {1, 2, 1, 127};
        Edges.due(1, x.stored(0, 1), "how often it happened");
        for (int i = 0; i <= 3; i++) {
            Edges.due(taken[i], x.snapshot(1, 0, i), "number " + i + " of the first snapshot");
            Edges.due(taken[i], x.snapshot(1, 1, i), "number " + i + " of the last snapshot");
        }
    }

    @Holds(Sentence.NEW_ENTRY)
    static void anEntryThatWentComesBackAsANewOne() {
        TroubleMemory x = Steps.memory(1, 9, 5);
        Steps.fail(x, 1);
        Steps.pass(x, 1);
        Steps.fail(x, 1);
        Steps.fail(x, 2);
        entries(x, "when code 1 is displaced", 2);
        x.clear(0);
        Steps.fail(x, 1);
        Edges.due(1, x.stored(0, 1), "how often it happened");
        Edges.due(6, x.snapshot(1, 0, 1), "its first snapshot");
    }

    @Holds(Sentence.MAY_GO)
    static void oneLowerGoesThoughItIsFailed() {
        TroubleMemory x = Steps.memory(1, 6, 5);
        failAll(x, 1, 2);
        entries(x, "6 for 5", 2);
        displaced(x, "6 for 5", 1);
    }

    @Holds(Sentence.MAY_GO)
    static void theSameGoesIfItIsNotFailed() {
        TroubleMemory x = Steps.memory(1, 5, 5);
        Steps.fail(x, 1);
        Steps.pass(x, 1);
        Steps.fail(x, 2);
        entries(x, "5, which passed, for 5", 2);
        displaced(x, "5, which passed, for 5", 1);
    }

    @Holds(Sentence.MAY_GO)
    static void theSameStaysIfItIsFailed() {
        TroubleMemory x = Steps.memory(1, 5, 5);
        failAll(x, 1);
        x.cycle(true);
        failAll(x, 2);
        entries(x, "5, which is FAILED, for 5", 1);
        displaced(x, "5, which is FAILED, for 5");
    }

    @Holds(Sentence.MAY_GO)
    static void oneHigherStaysThoughItIsNotFailed() {
        TroubleMemory x = Steps.memory(1, 4, 5);
        Steps.fail(x, 1);
        Steps.pass(x, 1);
        Steps.fail(x, 2);
        entries(x, "4, which passed, for 5", 1);
        displaced(x, "4, which passed, for 5");
    }

    @Holds(Sentence.MAY_GO)
    static void thePrioritiesAtBothEnds() {
        TroubleMemory x = Steps.memory(1, 255, 1, 255, 1);
        failAll(x, 1, 2);
        entries(x, "255 for 1", 2);
        Steps.pass(x, 2);
        Steps.fail(x, 3);
        entries(x, "1, which passed, for 255", 2);
        Steps.fail(x, 4);
        entries(x, "1, which passed, for 1", 4);
        displaced(x, "at the end", 1, 2);
    }

    @Holds(Sentence.MAY_GO)
    static void noneGoesWhileThereIsRoom() {
        TroubleMemory x = Steps.memory(2, 255, 1);
        Steps.fail(x, 1);
        Steps.pass(x, 1);
        Steps.fail(x, 2);
        entries(x, "the last room is taken", 1, 2);
        displaced(x, "the last room is taken");
    }

    @Holds(Sentence.LOWEST_GOES)
    static void theLowestGoesThoughAnotherIsNotFailed() {
        TroubleMemory x = Steps.memory(3, 7, 9, 8, 5);
        failAll(x, 1, 2, 3);
        Steps.pass(x, 1);
        Steps.fail(x, 4);
        entries(x, "9, which is FAILED, goes before 7, which is not", 1, 3, 4);
        displaced(x, "9, which is FAILED, goes before 7, which is not", 2);
    }

    @Holds(Sentence.LOWEST_GOES)
    static void theSameGoesLast() {
        TroubleMemory x = Steps.memory(2, 5, 6, 5, 5);
        failAll(x, 1, 2);
        Steps.pass(x, 1);
        Steps.fail(x, 3);
        entries(x, "6 goes before 5", 1, 3);
        Steps.fail(x, 4);
        entries(x, "then 5, which passed", 3, 4);
        displaced(x, "both", 2, 1);
    }

    @Holds(Sentence.NOT_FAILED_GOES)
    static void theOneThatPassedGoesBeforeAnOlderOne() {
        TroubleMemory x = Steps.memory(3, 9, 9, 9, 5, 5);
        failAll(x, 1, 2, 3);
        Steps.pass(x, 2);
        Steps.fail(x, 4);
        entries(x, "the second passed", 1, 3, 4);
        Steps.fail(x, 5);
        entries(x, "the others are FAILED", 3, 4, 5);
        displaced(x, "both", 2, 1);
    }

    @Holds(Sentence.NOT_FAILED_GOES)
    static void theLastOneThatPassedGoes() {
        TroubleMemory x = Steps.memory(3, 9, 9, 9, 5);
        failAll(x, 1, 2, 3);
        Steps.pass(x, 3);
        Steps.fail(x, 4);
        entries(x, "the last passed", 1, 2, 4);
    }

    @Holds(Sentence.OLDEST_GOES)
    static void theOneStoredFirstGoes() {
        TroubleMemory x = Steps.memory(3, 9, 9, 9, 5);
        failAll(x, 3, 1, 2, 4);
        entries(x, "three that are FAILED", 1, 2, 4);
        displaced(x, "three that are FAILED", 3);
        TroubleMemory y = Steps.memory(3, 9, 9, 9, 9);
        failAll(y, 3, 1, 2);
        for (int n = 1; n <= 3; n++) {
            Steps.pass(y, n);
        }
        Steps.fail(y, 4);
        entries(y, "three that passed", 1, 2, 4);
        displaced(y, "three that passed", 3);
    }

    @Holds(Sentence.OLDEST_GOES)
    static void storedFirstIsNotHappenedFirst() {
        TroubleMemory x = Steps.memory(2, 9, 9, 5);
        failAll(x, 1, 2);
        Steps.pass(x, 1);
        Steps.fail(x, 1);
        Steps.fail(x, 3);
        entries(x, "the older happened last", 2, 3);
        displaced(x, "the older happened last", 1);
    }

    @Holds(Sentence.DISPLACED_ENTRY)
    static void theNewEntryIsTheLastOne() {
        TroubleMemory x = Steps.memory(3, 7, 9, 8, 5);
        failAll(x, 1, 2, 3, 4);
        entries(x, "the middle one went", 1, 3, 4);
        Edges.due(-1, x.snapshot(2, 0, 0), "the snapshot of the one that went");
        Edges.due(4, x.snapshot(4, 0, 1), "the snapshot of the one that came");
        Edges.due(1, x.stored(2, 1), "how often it happened");
        Edges.due(39, x.status(2), "the status of the one that went");
        Edges.due(4, x.lamp(3), "how many are FAILED");
    }

    @Holds(Sentence.DISPLACED_ENTRY)
    static void aCodeCanBeDisplacedTwice() {
        TroubleMemory x = Steps.memory(1, 9, 5);
        failAll(x, 1, 2);
        x.clear(1);
        failAll(x, 1, 2);
        entries(x, "at the end", 2);
        displaced(x, "at the end", 1, 1);
    }

    @Holds(Sentence.NOT_STORED)
    static void aFullMemoryOfHigherOnes() {
        TroubleMemory x = Steps.memory(2, 5, 6, 6, 7);
        failAll(x, 1, 2, 3, 4);
        entries(x, "none may go", 1, 2);
        displaced(x, "none may go");
        Edges.due(39, x.status(3), "the status of one that is not stored");
        Edges.due(-1, x.snapshot(3, 0, 0), "its snapshot");
    }

    @Holds(Sentence.NOT_STORED)
    static void noRoomAtAll() {
        TroubleMemory x = Steps.memory(0, 255, 1);
        failAll(x, 1, 2);
        entries(x, "room 0");
        displaced(x, "room 0");
        Edges.due(38, Steps.pass(x, 1), "one that is not stored passes");
    }

    @Holds(Sentence.SNAPSHOT)
    static void bothSnapshotsHaveFourNumbers() {
        TroubleMemory x = Steps.memory(1, 5, 5);
        Steps.fail(x, 1);
        Steps.pass(x, 1);
        x.cycle(true);
        Steps.fail(x, 2);
        Steps.fail(x, 1);
        int[] first = {0, 1, 1, 127};
        int[] last = {1, 5, 2, 127};
        TroubleMemory y = Steps.memory(2, 5, 5);
        Steps.fail(y, 1);
        Steps.pass(y, 1);
        y.cycle(true);
        Steps.fail(y, 2);
        Steps.fail(y, 1);
        for (int i = 0; i <= 3; i++) {
            Edges.due(first[i], y.snapshot(1, 0, i), "snapshot(1, 0, " + i + ")");
            Edges.due(last[i], y.snapshot(1, 1, i), "snapshot(1, 1, " + i + ")");
            Edges.due(-1, x.snapshot(1, 0, i), "snapshot(1, 0, " + i + ") of one that was displaced");
        }
    }

    @Holds(Sentence.SNAPSHOT_CYCLES)
    static void cyclesFrom0On() {
        TroubleMemory x = Steps.memory(2, 5, 5);
        Steps.fail(x, 1);
        Edges.due(0, x.snapshot(1, 0, 0), "before the first cycle ends");
        x.cycle(false);
        Steps.fail(x, 2);
        Edges.due(1, x.snapshot(2, 0, 0), "behind a cycle without tests");
        Steps.pass(x, 2);
        x.cycle(true);
        x.cut();
        x.cycle(true);
        x.start();
        Steps.pass(x, 1);
        Steps.fail(x, 1);
        Edges.due(2, x.snapshot(1, 1, 0), "behind a cycle that was refused");
        Edges.due(0, x.snapshot(1, 0, 0), "the first one stays");
    }

    @Holds(Sentence.SNAPSHOT_EVENTS)
    static void thisEventIsCounted() {
        TroubleMemory x = Steps.memory(2, 5);
        Steps.fail(x, 1);
        Edges.due(1, x.snapshot(1, 0, 1), "the first event");
    }

    @Holds(Sentence.SNAPSHOT_EVENTS)
    static void eventsThatDidNothingAreCounted() {
        TroubleMemory x = Steps.memory(2, 5, 5);
        x.enable(1, false);
        x.event(1, true);
        x.event(1, false);
        Steps.fail(x, 2);
        Edges.due(3, x.snapshot(2, 0, 1), "two whose condition is off, and this one");
        x.event(0, true);
        x.event(3, true);
        x.cut();
        x.event(2, true);
        x.start();
        Steps.fail(x, 2);
        Edges.due(4, x.snapshot(2, 1, 1), "refused ones are none");
    }

    @Holds(Sentence.SNAPSHOT_EVENTS)
    static void sinceTheBeginning() {
        TroubleMemory x = Steps.memory(2, 5);
        Steps.fail(x, 1);
        x.clear(0);
        x.cycle(true);
        Steps.fail(x, 1);
        Edges.due(2, x.snapshot(1, 0, 1), "behind a clearing and a cycle");
    }

    @Holds(Sentence.SNAPSHOT_FAILED)
    static void from1To200AreFailed() {
        TroubleMemory x = new TroubleMemory(200);
        for (int n = 1; n <= 200; n++) {
            x.code(5, 127, 127);
        }
        for (int n = 1; n <= 200; n++) {
            Steps.fail(x, n);
        }
        Edges.due(1, x.snapshot(1, 0, 2), "the first");
        Edges.due(2, x.snapshot(2, 0, 2), "the second");
        Edges.due(199, x.snapshot(199, 0, 2), "the 199th");
        Edges.due(200, x.snapshot(200, 0, 2), "the 200th");
    }

    @Holds(Sentence.SNAPSHOT_FAILED)
    static void whatIsNotStoredIsFailedToo() {
        TroubleMemory x = Steps.memory(1, 9, 9, 9, 5);
        x.parent(2, 1);
        failAll(x, 1, 2, 3);
        Steps.pass(x, 1);
        Steps.fail(x, 4);
        Edges.due(3, x.snapshot(4, 0, 2), "one hidden, one without room, and this one; one passed");
    }

    @Holds(Sentence.SNAPSHOT_UP)
    static void upFrom1To127() {
        int[] ups = {1, 2, 126, 127};
        for (int up : ups) {
            TroubleMemory x = new TroubleMemory(1);
            x.code(5, up, 64);
            for (int i = 1; i <= 127; i++) {
                x.event(1, true);
            }
            Edges.due(up, x.snapshot(1, 0, 3), "UP " + up + " in the first");
            Edges.due(up, x.snapshot(1, 1, 3), "UP " + up + " in the last");
        }
    }

    @Holds(Sentence.STORED)
    static void entry0IsTheOneStoredFirst() {
        TroubleMemory x = Steps.memory(2, 1, 255);
        Steps.fail(x, 2);
        Steps.pass(x, 2);
        Steps.fail(x, 2);
        Steps.fail(x, 1);
        int[][] rows = {{2, 2, 255}, {1, 1, 1}};
        for (int i = 0; i <= 1; i++) {
            for (int what = 0; what <= 2; what++) {
                Edges.due(rows[i][what], x.stored(i, what), "stored(" + i + ", " + what + ")");
            }
        }
    }

    @Holds(Sentence.STORED)
    static void entry199IsTheLastOf200() {
        TroubleMemory x = new TroubleMemory(65536);
        for (int n = 1; n <= 200; n++) {
            x.code(256 - n, 127, 127);
        }
        for (int n = 1; n <= 200; n++) {
            Steps.fail(x, n);
        }
        Edges.due(200, x.stored(199, 0), "stored(199, 0)");
        Edges.due(1, x.stored(199, 1), "stored(199, 1)");
        Edges.due(56, x.stored(199, 2), "stored(199, 2)");
        Edges.due(-1, x.stored(200, 0), "stored(200, 0)");
        Edges.due(200, x.stored(-1, 0), "stored(-1, 0)");
    }

    @Holds(Sentence.STORED_COUNT)
    static void fromEmptyToFull() {
        TroubleMemory x = Steps.memory(2, 5, 5, 4);
        Edges.due(0, x.stored(-1, 0), "empty");
        Steps.fail(x, 1);
        Edges.due(1, x.stored(-1, 0), "one");
        Steps.fail(x, 2);
        Edges.due(2, x.stored(-1, 0), "full");
        Steps.fail(x, 3);
        Edges.due(2, x.stored(-1, 0), "full, and one displaced");
        x.clear(0);
        Edges.due(0, x.stored(-1, 0), "empty again");
    }

    @Holds(Sentence.DISPLACED)
    static void inTheirOrder() {
        TroubleMemory x = Steps.memory(1, 9, 8, 7, 6);
        displaced(x, "at first");
        failAll(x, 1);
        displaced(x, "with one entry");
        failAll(x, 2);
        displaced(x, "one", 1);
        failAll(x, 3, 4);
        displaced(x, "three", 1, 2, 3);
        x.clear(0);
        displaced(x, "clearing takes none back", 1, 2, 3);
    }

    @Holds(Sentence.DISPLACED)
    static void asManyAsCallsAllow() {
        TroubleMemory x = new TroubleMemory(1);
        for (int n = 1; n <= 22; n++) {
            x.code(23 - n, 127, 127);
        }
        for (int round = 0; round <= 20; round++) {
            x.clear(0);
            for (int n = 1; n <= 22; n++) {
                Steps.fail(x, n);
            }
        }
        Edges.due(1, x.displaced(0), "displaced(0)");
        Edges.due(21, x.displaced(20), "displaced(20)");
        Edges.due(1, x.displaced(21), "displaced(21)");
        Edges.due(21, x.displaced(440), "displaced(440)");
        Edges.due(-1, x.displaced(441), "displaced(441)");
    }

    /** No 512 calls come so far: this is more than the document asks for. */
    @Holds(Sentence.DISPLACED)
    static void theFirst500() {
        TroubleMemory x = Steps.memory(1, 9, 8);
        for (int i = 0; i <= 501; i++) {
            Steps.fail(x, 1);
            Steps.fail(x, 2);
            Edges.due(i < 500 ? 1 : -1, x.displaced(i), "displaced(" + i + ")");
            Edges.due(2, x.stored(0, 0), "whose the entry is");
            x.clear(0);
        }
        Edges.due(1, x.displaced(499), "displaced(499) at the end");
        Edges.due(-1, x.displaced(500), "displaced(500) at the end");
    }
}
