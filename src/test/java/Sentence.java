/** What the document says of its edges; a sentence of its terms stands with the promise that shows it. */
enum Sentence {
    CALLS(0, "An object is used for at most 512 calls after it has been made; what later calls answer is free."),

    NUMBERS(2, "CODES are numbered from 1 on, at most 200,"),
    PRIORITIES(2, "each with a PRIORITY (1, the highest, to 255),"),
    STEPS(2, "and with steps UP and DOWN (1 .. 127)."),
    GROUP(7, "Its GROUP is 1 + (PRIORITY - 1) / 32 (whole)."),
    CONDITION(9, "Its CONDITION is the one of 0 .. 31 that is its number modulo 32;"),
    ALL_ON(9, "all are on at first."),
    PARENT(8, "It may have a PARENT, another code."),

    BITS(5, "STATUS, bits: 0 FAILED, 1 failed this cycle, 2 PENDING, 3 CONFIRMED, 4 not tested since clearing, "
            + "5 failed since clearing, 6 not tested this cycle, 7 LAMP."),
    STATUS_AT_FIRST(5, "At first (and behind clearing) 80 (bits 4 and 6)."),
    NUMBERS_AT_FIRST(3, "Each code also has a COUNTER (-128 .. 127), TRIPS and an AGE and GOOD cycles, at first 0."),

    EVENT_WHEN_OFF(3, "AN EVENT of a code whose CONDITION is off does nothing."),
    COUNT_UP(3, "Otherwise a failed one: a COUNTER below 0 becomes 0, then it is UP more, 127 at most;"),
    COUNT_DOWN(3, "another: a COUNTER above 0 becomes 0, then it is DOWN less, -128 at least."),
    COUNTER_AT_ITS_END(3, "If the COUNTER is then 127, the TEST FAILED; if it is -128, it PASSED;"),
    COUNTER_THERE_ALREADY(3, "both also when it was there already."),

    PASSED(3, "PASSED: bits 0, 4, 6 become 0."),
    FAILED(3, "FAILED: bits 4, 6 become 0;"),
    TRIPS(3, "if bit 1 is 0, TRIPS is 1 more (255 at most);"),
    CONFIRMED(3, "if TRIPS is 2 or more, bit 3 becomes 1,"),
    LAMP(3, "and bit 7, too, if the PRIORITY is at most 64;"),
    FAILED_BITS(3, "bits 1, 2, 5 become 1;"),
    FAILED_NUMBERS(15, "AGE and GOOD become 0;"),
    STORED_ONCE(3, "if bit 0 was 0, it becomes 1, and the code is STORED,"),
    HIDDEN(8, "unless its parent, or its parent's, and so on, is FAILED (bit 0)."),

    ROOM(1, "THE MEMORY has so much ROOM for ENTRIES."),
    HAPPENED(11, "To STORE a code that has an entry: it has happened once more (255 at most), "
            + "and its last SNAPSHOT is made."),
    NEW_ENTRY(11, "One that has none: if there is room, an entry behind all others, with happened 1, "
            + "and both SNAPSHOTS made."),
    MAY_GO(14, "If there is none: of the entries of a lower PRIORITY (a greater number) than the code's, "
            + "and those of the same one that are not FAILED, one goes:"),
    LOWEST_GOES(14, "of the lowest PRIORITY;"),
    NOT_FAILED_GOES(14, "of these one that is not FAILED before one that is;"),
    OLDEST_GOES(14, "of these the one that was stored first;"),
    DISPLACED_ENTRY(14, "it is DISPLACED, and the code's entry comes, behind all others."),
    NOT_STORED(14, "If there is none of that kind, the code is not stored."),
    SNAPSHOT_CYCLES(6, "A SNAPSHOT: how many cycles there were,"),
    SNAPSHOT_EVENTS(6, "how many events there were (since the beginning, those that did nothing, too, this one),"),
    SNAPSHOT_FAILED(6, "how many codes are FAILED (with this one),"),
    SNAPSHOT_UP(6, "the COUNTER's UP."),

    CYCLE_PENDING(4, "A CYCLE ends (and the next begins): for each code, in order: "
            + "if bit 1 is 0 and bit 6 is 0, bit 2 becomes 0,"),
    CYCLE_TRIPS(4, "TRIPS 0 unless it is CONFIRMED;"),
    CYCLE_GOOD(4, "GOOD is 1 more (255 at most), and with 3 of them bit 7 becomes 0;"),
    CYCLE_AGE(15, "and if the cycle was one with TESTS, and bit 3 is 1 and bit 0 is 0, AGE is 1 more,"),
    CYCLE_OLD(15, "and when that is 40, bit 3 becomes 0, TRIPS, AGE and GOOD 0, "
            + "and its entry, if it has one, goes."),
    CYCLE_BEGINS(4, "Then, for all, bit 1 becomes 0, bit 6 becomes 1."),
    CYCLE_KEEPS(4, "Then status, TRIPS, AGE and GOOD of all are KEPT."),

    LOST(12, "POWER. When it is CUT, all but what was KEPT, and entries with their snapshots as they are, is lost;"),
    NOTHING_HAPPENS(12, "nothing happens until it STARTS"),
    TOLD_AS_BEFORE(12, "(status, AGE and what they say are told as before until then):"),
    AS_KEPT(13, "then status, TRIPS, AGE, GOOD are as they were KEPT"),
    NEVER_KEPT(13, "(80 and 0 for codes that never were),"),
    COUNTERS_AND_CONDITIONS(13, "COUNTERS 0, conditions on;"),
    STAYS(13, "codes, parents, how many cycles and events there were, and what was DISPLACED stay."),
    CLEAR_KEEPS(7, "To clear keeps what it clears."),

    REFUSALS_CHANGE_NOTHING(0, "REFUSALS change nothing"),
    FIRST_THAT_FITS(0, "and answer, the first that fits: -1 an unknown number, -2 outside a range, "
            + "-3 not in this state"),
    REFUSED_WHILE_CUT(0, "(also everything but start(), and what only tells, while the power is CUT), -4 no room."),

    NEW_ROOM(1, "A memory with so much ROOM (0 .. 65536; 8 for any other number);"),
    NEW_POWER(1, "the power is on."),

    CODE(2, "A code: its number."),
    CODE_NONE(2, "-2 a number is none,"),
    CODE_CUT(2, "-3,"),
    CODE_FULL(2, "-4 there are 200."),

    EVENT(3, "An event: the status behind it."),
    EVENT_UNKNOWN(3, "-1 there is no code,"),
    EVENT_CUT(3, "-3."),

    CYCLE(4, "A cycle ends, with TESTS or without: how many there were."),
    CYCLE_CUT(4, "-3."),

    STATUS(5, "A code's status."),
    STATUS_UNKNOWN(5, "-1 there is none."),

    SNAPSHOT(6, "Number i (0 .. 3) of a code's first SNAPSHOT (which 0) or its last one (1)."),
    SNAPSHOT_UNKNOWN(6, "-1 there is no code, or it has no entry,"),
    SNAPSHOT_NONE(6, "-2 another which or i."),

    CLEAR(7, "All codes of a group (0: of all) are cleared: status 80, COUNTER, TRIPS, AGE and GOOD 0, no entry: "
            + "how many there were."),
    CLEAR_NONE(7, "-2 there is no such group (0 .. 8),"),
    CLEAR_OFF(7, "-3, also when condition 31 is off."),

    PARENT_COUNT(8, "The other one becomes a code's parent (0: it has none): how many are above it, "
            + "one above the other."),
    PARENT_UNKNOWN(8, "-1 there is no such code,"),
    PARENT_SAME(8, "-2 it is the same one,"),
    PARENT_ABOVE(8, "-3, also when the code is above the other one."),

    ENABLE(9, "A condition is on from now on, or off: how many are on."),
    ENABLE_UNKNOWN(9, "-1 there is none,"),
    ENABLE_CUT(9, "-3."),

    LAMPS(10, "kind = 0: 1 if a code has bit 7, 0 if none has; 1 how many are CONFIRMED, 2 PENDING, 3 FAILED."),
    LAMPS_NONE(10, "-2 no such kind."),

    STORED(11, "Entry i (from 0, the one stored first): what = 0 its code, 1 how often it happened, 2 its PRIORITY;"),
    STORED_COUNT(11, "i = -1 with what = 0: how many there are."),
    STORED_UNKNOWN(11, "-1 there is none,"),
    STORED_NONE(11, "-2 no such what."),

    CUT(12, "The power is CUT: how many entries there are."),
    CUT_CUT(12, "-3."),

    START(13, "The power STARTS: how many codes have an entry."),
    START_ON(13, "-3 it is on."),

    DISPLACED(14, "The code that was DISPLACED i-th (from 0); the first 500 are told."),
    DISPLACED_UNKNOWN(14, "-1 there is none."),

    AGE(15, "A code's AGE."),
    AGE_UNKNOWN(15, "-1 there is none.");

    /** 0 where it binds all promises. */
    final int promise;
    final String words;

    Sentence(int promise, String words) {
        this.promise = promise;
        this.words = words;
    }

    @Override
    public String toString() {
        return (promise == 0 ? "All promises" : "Promise " + promise) + ", \"" + words + "\"";
    }
}
