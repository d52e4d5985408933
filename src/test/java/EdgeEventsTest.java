/** Edges of promise 3, and of what an event does for promises 5, 8 and 15. */
public final class EdgeEventsTest {
    public static void main(String[] args) {
        Edges.run(EdgeEventsTest.class);
    }

    private static TroubleMemory steps(int up, int down) {
        TroubleMemory x = new TroubleMemory(2);
        x.code(5, up, down);
        return x;
    }

    private static void events(TroubleMemory x, int count, boolean failed) {
        for (int i = 0; i < count; i++) {
            x.event(1, failed);
        }
    }

    private static int bit(int n, int status) {
        return status >> n & 1;
    }

    @Holds(Sentence.EVENT)
    static void theStatusBehindIt() {
        TroubleMemory x = Steps.memory(1, 5);
        boolean[] failed = {false, true, true, false, false, false, true};
        for (int i = 0; i < failed.length; i++) {
            int answer = x.event(1, failed[i]);
            Edges.due(answer, x.status(1), "status(1) behind event " + i);
        }
        Edges.due(39, x.status(1), "status(1) at the end");
    }

    @Holds(Sentence.EVENT)
    static void code200HasEvents() {
        TroubleMemory x = new TroubleMemory(1);
        for (int n = 1; n <= 200; n++) {
            x.code(5, 127, 127);
        }
        Edges.due(39, x.event(200, true), "event(200, true)");
        Edges.due(80, x.status(199), "status(199)");
        Edges.due(39, x.event(1, true), "event(1, true)");
        Edges.due(80, x.status(2), "status(2)");
    }

    @Holds(Sentence.BITS)
    static void eachBitHasItsMeaning() {
        TroubleMemory x = Steps.memory(1, 64);
        Edges.due(0b01010000, x.status(1), "not tested since clearing, nor in this cycle");
        Edges.due(0b00100111, Steps.fail(x, 1), "failed, in this cycle, pending, since clearing");
        x.cycle(true);
        Edges.due(0b01100101, x.status(1), "failed, not in this cycle, not tested in it");
        Edges.due(0b10101111, Steps.fail(x, 1), "confirmed, with the lamp");
        Edges.due(0b10101110, Steps.pass(x, 1), "failed no more");
        x.cycle(true);
        Edges.due(0b11101100, x.status(1), "pending still, not tested in this cycle");
        Steps.goodCycles(x, 1, 1, true);
        Edges.due(0b11101000, x.status(1), "pending no more");
        Steps.goodCycles(x, 1, 2, true);
        Edges.due(0b01101000, x.status(1), "the lamp is dark");
        Steps.goodCycles(x, 1, 37, true);
        Edges.due(0b01100000, x.status(1), "confirmed no more");
        x.clear(0);
        Edges.due(0b01010000, x.status(1), "cleared");
    }

    @Holds(Sentence.STATUS_AT_FIRST)
    static void eightyAtFirstAndBehindClearing() {
        TroubleMemory x = Steps.memory(1, 5);
        Edges.due(80, x.status(1), "at first");
        x.clear(1);
        Edges.due(80, x.status(1), "behind clearing what is clear");
        Steps.confirm(x, 1);
        x.clear(1);
        Edges.due(80, x.status(1), "behind clearing all bits");
        Steps.pass(x, 1);
        x.clear(0);
        Edges.due(80, x.status(1), "behind clearing no bit");
    }

    @Holds(Sentence.NUMBERS_AT_FIRST)
    static void theCounterIsAt0() {
        Edges.due(39, steps(127, 1).event(1, true), "0 and 127");
        Edges.due(80, steps(126, 1).event(1, true), "0 and 126");
        Edges.due(80, steps(1, 127).event(1, false), "0 less 127");
        TroubleMemory x = steps(1, 64);
        Edges.due(80, x.event(1, false), "0 less 64");
        Edges.due(0, x.event(1, false), "0 less 128");
    }

    @Holds(Sentence.NUMBERS_AT_FIRST)
    static void tripsAndAgeAreAt0() {
        TroubleMemory x = Steps.memory(1, 5);
        Edges.due(0, x.age(1), "age");
        Edges.due(0, bit(3, Steps.fail(x, 1)), "confirmed by the first trip");
        Edges.due(0, x.age(1), "age of one that failed");
    }

    @Holds(Sentence.EVENT_WHEN_OFF)
    static void theCounterStays() {
        TroubleMemory x = steps(126, 127);
        x.event(1, true);
        x.enable(1, false);
        Edges.due(80, x.event(1, true), "one that would fail");
        Edges.due(80, x.event(1, false), "one that would go below 0");
        Edges.due(80, x.event(1, false), "one that would pass");
        x.enable(1, true);
        Edges.due(39, x.event(1, true), "from 126 to 127");
    }

    @Holds(Sentence.EVENT_WHEN_OFF)
    static void noTestThoughItIsThereAlready() {
        TroubleMemory x = Steps.memory(2, 5);
        Steps.fail(x, 1);
        x.cycle(true);
        x.enable(1, false);
        Edges.due(101, x.event(1, true), "the counter is at 127");
        Edges.due(101, x.event(1, false), "the counter stays at 127");
        x.enable(1, true);
        Edges.due(175, x.event(1, true), "the second trip");
    }

    @Holds(Sentence.EVENT_WHEN_OFF)
    static void otherConditionsDoNotMatter() {
        TroubleMemory x = Steps.memory(2, 5);
        for (int condition = 0; condition <= 31; condition++) {
            x.enable(condition, condition == 1);
        }
        Edges.due(39, x.event(1, true), "only condition 1 is on");
    }

    @Holds(Sentence.COUNT_UP)
    static void belowZeroBecomesZero() {
        for (int down = 1; down <= 127; down++) {
            TroubleMemory x = steps(127, down);
            x.event(1, false);
            Edges.due(39, x.event(1, true), "from -" + down + " to 127");
            TroubleMemory y = steps(126, down);
            y.event(1, false);
            Edges.due(80, y.event(1, true), "from -" + down + " to 126");
        }
        TroubleMemory z = steps(127, 127);
        Steps.pass(z, 1);
        Edges.due(39, z.event(1, true), "from -128 to 127");
    }

    @Holds(Sentence.COUNT_UP)
    static void atMost127() {
        for (int up = 64; up <= 126; up++) {
            TroubleMemory x = steps(up, 127);
            Edges.due(80, x.event(1, true), "the first step of " + up);
            Edges.due(39, x.event(1, true), "the second step of " + up);
            Edges.due(39, x.event(1, true), "the third step of " + up);
            Edges.due(39, x.event(1, false), "one step to -127");
            Edges.due(38, x.event(1, false), "one step more to -128");
        }
    }

    @Holds(Sentence.COUNT_DOWN)
    static void aboveZeroBecomesZero() {
        for (int up = 1; up <= 126; up++) {
            TroubleMemory x = steps(up, 64);
            x.event(1, true);
            Edges.due(80, x.event(1, false), "from " + up + " to -64");
            Edges.due(0, x.event(1, false), "from -64 to -128");
        }
        TroubleMemory y = steps(127, 64);
        y.event(1, true);
        Edges.due(39, y.event(1, false), "from 127 to -64");
        Edges.due(38, y.event(1, false), "from -64 to -128");
    }

    @Holds(Sentence.COUNT_DOWN)
    static void atLeastMinus128() {
        for (int down = 64; down <= 127; down++) {
            TroubleMemory x = steps(127, down);
            Edges.due(80, x.event(1, false), "the first step of " + down);
            Edges.due(0, x.event(1, false), "the second step of " + down);
            Edges.due(0, x.event(1, false), "the third step of " + down);
            Edges.due(39, x.event(1, true), "one step to 127");
        }
    }

    @Holds(Sentence.COUNTER_AT_ITS_END)
    static void only127Fails() {
        TroubleMemory x = steps(1, 1);
        for (int i = 1; i <= 126; i++) {
            Edges.due(80, x.event(1, true), "the counter at " + i);
        }
        Edges.due(39, x.event(1, true), "the counter at 127");
        TroubleMemory y = steps(63, 1);
        events(y, 1, true);
        Edges.due(80, y.event(1, true), "the counter at 126");
        Edges.due(39, y.event(1, true), "the counter at 127, not at 189");
    }

    @Holds(Sentence.COUNTER_AT_ITS_END)
    static void onlyMinus128Passes() {
        TroubleMemory x = steps(1, 1);
        for (int i = 1; i <= 127; i++) {
            Edges.due(80, x.event(1, false), "the counter at -" + i);
        }
        Edges.due(0, x.event(1, false), "the counter at -128");
        Edges.due(80, steps(1, 127).event(1, false), "the counter at -127 in one step");
    }

    @Holds(Sentence.COUNTER_THERE_ALREADY)
    static void failedAgainAt127() {
        TroubleMemory x = steps(1, 1);
        events(x, 127, true);
        x.cycle(true);
        Edges.due(101, x.status(1), "not tested in this cycle");
        Edges.due(175, x.event(1, true), "at 127 already");
        x.cycle(true);
        Edges.due(175, x.event(1, true), "at 127 once more");
    }

    @Holds(Sentence.COUNTER_THERE_ALREADY)
    static void passedAgainAtMinus128() {
        TroubleMemory x = steps(1, 1);
        events(x, 128, false);
        x.cycle(true);
        Edges.due(64, x.status(1), "not tested in this cycle");
        Edges.due(0, x.event(1, false), "at -128 already");
        x.cycle(true);
        Edges.due(0, x.event(1, false), "at -128 once more");
    }

    @Holds(Sentence.PASSED)
    static void passedTakesBits0And4And6() {
        TroubleMemory x = Steps.memory(1, 5);
        Edges.due(0, Steps.pass(x, 1), "of 80");
        Steps.fail(x, 1);
        Edges.due(38, Steps.pass(x, 1), "of 39: bits 1, 2, 5 stay");
        Steps.fail(x, 1);
        x.cycle(true);
        Edges.due(36, Steps.pass(x, 1), "of 101: bits 2, 5 stay");
        Edges.due(175, Steps.fail(x, 1), "a second trip");
        Edges.due(174, Steps.pass(x, 1), "of 175: bits 1, 2, 3, 5, 7 stay");
    }

    @Holds(Sentence.FAILED)
    static void failedTakesBits4And6() {
        TroubleMemory x = Steps.memory(1, 5);
        Edges.due(0, Steps.fail(x, 1) & 80, "bits 4 and 6 of 80");
        x.cycle(true);
        Edges.due(0, Steps.fail(x, 1) & 80, "bits 4 and 6 of 101");
    }

    @Holds(Sentence.FAILED_BITS)
    static void failedSetsBits1And2And5() {
        TroubleMemory x = Steps.memory(1, 5);
        Steps.pass(x, 1);
        Edges.due(39, Steps.fail(x, 1), "of 0");
        x.clear(0);
        Edges.due(39, Steps.fail(x, 1), "of 80");
        x.cycle(true);
        Edges.due(38, Steps.fail(x, 1) & 38, "bits 1, 2, 5 of 101");
    }

    @Holds(Sentence.TRIPS)
    static void oneTripACycle() {
        TroubleMemory x = Steps.memory(1, 5);
        for (int i = 1; i <= 4; i++) {
            Edges.due(39, Steps.fail(x, 1), "failed " + i + " times in a cycle");
            Steps.pass(x, 1);
        }
        x.cycle(true);
        Edges.due(175, Steps.fail(x, 1), "failed in the next cycle");
    }

    @Holds(Sentence.TRIPS)
    static void asManyTripsAsCallsAllow() {
        TroubleMemory x = Steps.memory(1, 5);
        Steps.fail(x, 1);
        for (int trips = 2; trips <= 256; trips++) {
            x.cycle(true);
            Edges.due(175, Steps.fail(x, 1), "trip " + trips);
        }
    }

    @Holds(Sentence.CONFIRMED)
    static void confirmedByTheSecondTrip() {
        TroubleMemory x = Steps.memory(1, 255);
        Edges.due(0, bit(3, Steps.fail(x, 1)), "bit 3 with 1 trip");
        Edges.due(0, x.lamp(1), "how many are CONFIRMED");
        x.cycle(true);
        Edges.due(0, bit(3, x.status(1)), "bit 3 before the second trip");
        Edges.due(1, bit(3, Steps.fail(x, 1)), "bit 3 with 2 trips");
        x.cycle(true);
        Edges.due(1, bit(3, Steps.fail(x, 1)), "bit 3 with 3 trips");
        Edges.due(1, x.lamp(1), "how many are CONFIRMED");
    }

    @Holds(Sentence.LAMP)
    static void priority64LightsTheLamp() {
        int[] priorities = {1, 63, 64, 65, 66, 255};
        int[] lamps = {1, 1, 1, 0, 0, 0};
        for (int i = 0; i < priorities.length; i++) {
            TroubleMemory x = Steps.memory(1, priorities[i]);
            Edges.due(0, bit(7, Steps.fail(x, 1)), "bit 7 with 1 trip of priority " + priorities[i]);
            x.cycle(true);
            Edges.due(lamps[i], bit(7, Steps.fail(x, 1)), "bit 7 with 2 trips of priority " + priorities[i]);
            Edges.due(lamps[i], x.lamp(0), "the lamp of priority " + priorities[i]);
        }
    }

    @Holds(Sentence.FAILED_NUMBERS)
    static void anAgeOf39Becomes0() {
        TroubleMemory x = Steps.memory(1, 5);
        Steps.confirm(x, 1);
        x.cycle(true);
        Steps.goodCycles(x, 1, 39, true);
        Edges.due(39, x.age(1), "age before");
        Steps.fail(x, 1);
        Edges.due(0, x.age(1), "age behind");
        Edges.due(175, x.status(1), "status behind");
    }

    @Holds(Sentence.FAILED_NUMBERS)
    static void anAgeBecomes0AtEachFailure() {
        TroubleMemory x = Steps.memory(1, 5);
        Steps.confirm(x, 1);
        x.cycle(true);
        Steps.goodCycles(x, 1, 1, true);
        x.event(1, false);
        Edges.due(1, x.age(1), "age behind a passed test");
        x.enable(1, false);
        x.event(1, true);
        Edges.due(1, x.age(1), "age behind an event that does nothing");
        x.enable(1, true);
        x.event(1, true);
        Edges.due(0, x.age(1), "age behind a failed test");
    }

    @Holds(Sentence.FAILED_NUMBERS)
    static void twoGoodCyclesBecomeNone() {
        TroubleMemory x = Steps.memory(1, 5);
        Steps.confirm(x, 1);
        x.cycle(false);
        Steps.goodCycles(x, 1, 2, false);
        Steps.fail(x, 1);
        x.cycle(false);
        int[] lamps = {1, 1, 0};
        for (int i = 0; i < 3; i++) {
            Steps.goodCycles(x, 1, 1, false);
            Edges.due(lamps[i], x.lamp(0), "the lamp with " + (i + 1) + " good cycles behind the failure");
        }
    }

    @Holds(Sentence.STORED_ONCE)
    static void whatIsFailedIsNotStoredAgain() {
        TroubleMemory x = Steps.memory(1, 5);
        for (int i = 1; i <= 3; i++) {
            Steps.fail(x, 1);
            x.event(1, false);
            Edges.due(1, x.stored(0, 1), "how often it happened");
            x.cycle(true);
        }
        Edges.due(0, x.snapshot(1, 1, 0), "its last snapshot");
        Steps.pass(x, 1);
        Steps.fail(x, 1);
        Edges.due(2, x.stored(0, 1), "how often it happened when it passed between");
        Edges.due(3, x.snapshot(1, 1, 0), "its last snapshot then");
    }

    @Holds(Sentence.STORED_ONCE)
    static void noEntryLaterWhileItStaysFailed() {
        TroubleMemory x = Steps.memory(1, 5, 50);
        Steps.fail(x, 1);
        Edges.due(39, Steps.fail(x, 2), "failed, but there is no room");
        x.clear(1);
        Edges.due(0, x.stored(-1, 0), "there is room");
        Edges.due(39, Steps.fail(x, 2), "failed already");
        Edges.due(0, x.stored(-1, 0), "entries");
        Steps.pass(x, 2);
        Steps.fail(x, 2);
        Edges.due(2, x.stored(0, 0), "whose the entry is when it passed between");
    }

    @Holds(Sentence.HIDDEN)
    static void onlyBit0OfTheParentHides() {
        TroubleMemory x = Steps.memory(4, 5, 5);
        x.parent(2, 1);
        Steps.fail(x, 1);
        x.clear(0);
        Steps.fail(x, 2);
        Edges.due(1, x.stored(-1, 0), "the parent was cleared");
        Steps.pass(x, 2);
        Steps.fail(x, 1);
        Steps.pass(x, 1);
        Steps.fail(x, 2);
        Edges.due(2, x.stored(0, 1), "the parent failed in this cycle, and passed");
        Steps.pass(x, 2);
        Steps.fail(x, 1);
        x.cycle(true);
        Steps.fail(x, 2);
        Edges.due(2, x.stored(0, 1), "the parent is FAILED since the cycle before");
        Edges.due(2, x.lamp(3), "both are FAILED");
    }

    @Holds(Sentence.HIDDEN)
    static void aHiddenCodeMakesNoSnapshot() {
        TroubleMemory x = Steps.memory(4, 5, 5);
        x.parent(2, 1);
        Steps.fail(x, 2);
        Steps.pass(x, 2);
        Steps.fail(x, 1);
        Steps.fail(x, 2);
        Edges.due(1, x.snapshot(2, 1, 1), "its last snapshot");
        Edges.due(1, x.stored(0, 1), "how often it happened");
    }

    @Holds(Sentence.HIDDEN)
    static void eachOf199AboveHides() {
        int[] hiding = {1, 2, 100, 198, 199};
        for (int above : hiding) {
            TroubleMemory x = chain();
            Steps.fail(x, above);
            Edges.due(39, Steps.fail(x, 200), "event(200, true) below the failed code " + above);
            Edges.due(1, x.stored(-1, 0), "entries with the failed code " + above);
            Edges.due(above, x.stored(0, 0), "whose the entry is");
        }
        TroubleMemory y = chain();
        Steps.fail(y, 200);
        Steps.fail(y, 199);
        Steps.fail(y, 1);
        Edges.due(3, y.stored(-1, 0), "entries, when only codes below are failed");
    }

    /** 200 codes, each under the one before. */
    private static TroubleMemory chain() {
        TroubleMemory x = new TroubleMemory(4);
        for (int n = 1; n <= 200; n++) {
            x.code(5, 127, 127);
        }
        for (int n = 2; n <= 200; n++) {
            x.parent(n, n - 1);
        }
        return x;
    }
}
