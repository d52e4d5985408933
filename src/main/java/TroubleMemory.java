import java.util.ArrayList;

/** A memory of troubles; ../shared/DOC.md says, as numbered promises, what each call does. */
public final class TroubleMemory {
    private static final int UNKNOWN = -1;
    private static final int OUT_OF_RANGE = -2;
    private static final int WRONG_STATE = -3;
    private static final int NO_ROOM = -4;

    private static final int MOST_ROOM = 65536;
    private static final int USUAL_ROOM = 8;
    private static final int MOST_CODES = 200;
    private static final int MOST_DISPLACED = 500;
    private static final int LOWEST_PRIORITY = 255;
    private static final int LAST_LAMP_PRIORITY = 64;
    private static final int PRIORITIES_OF_A_GROUP = 32;
    private static final int GROUPS = 8;
    private static final int LONGEST_STEP = 127;
    private static final int CONDITIONS = 32;
    private static final int CLEARING_CONDITION = 31;
    private static final int ALL_ON = -1;

    private static final int COUNTER_FAILED = 127;
    private static final int COUNTER_PASSED = -128;
    private static final int MOST_COUNTED = 255;
    private static final int TRIPS_TO_CONFIRM = 2;
    private static final int GOOD_TO_DARKEN = 3;
    private static final int AGE_TO_FORGET = 40;

    private static final int FAILED = 1;
    private static final int FAILED_THIS_CYCLE = 1 << 1;
    private static final int PENDING = 1 << 2;
    private static final int CONFIRMED = 1 << 3;
    private static final int NOT_TESTED_SINCE_CLEARING = 1 << 4;
    private static final int FAILED_SINCE_CLEARING = 1 << 5;
    private static final int NOT_TESTED_THIS_CYCLE = 1 << 6;
    private static final int LAMP = 1 << 7;
    private static final int STATUS_AT_FIRST = NOT_TESTED_SINCE_CLEARING | NOT_TESTED_THIS_CYCLE;

    private final ArrayList<Code> codes = new ArrayList<>();
    private final Memory memory;
    /** Bit n is 1 while condition n is on. */
    private int conditions = ALL_ON;
    private boolean powered = true;
    private int cycles = 0;
    private int events = 0;

    public TroubleMemory(int room) {
        memory = new Memory(isWithin(room, 0, MOST_ROOM) ? room : USUAL_ROOM);
    }

    public int code(int priority, int up, int down) {
        if (!isWithin(priority, 1, LOWEST_PRIORITY)
                || !isWithin(up, 1, LONGEST_STEP)
                || !isWithin(down, 1, LONGEST_STEP)) {
            return OUT_OF_RANGE;
        }
        if (!powered) {
            return WRONG_STATE;
        }
        if (codes.size() >= MOST_CODES) {
            return NO_ROOM;
        }
        Code made = new Code(codes.size() + 1, priority, up, down);
        codes.add(made);
        return made.number;
    }

    public int event(int code, boolean failed) {
        Code known = find(code);
        if (known == null) {
            return UNKNOWN;
        }
        if (!powered) {
            return WRONG_STATE;
        }
        events++;
        if (isOn(known.condition())) {
            known.count(failed);
            judge(known);
        }
        return known.now.status;
    }

    public int cycle(boolean tested) {
        if (!powered) {
            return WRONG_STATE;
        }
        for (int i = 0; i < codes.size(); i++) {
            endCycle(codes.get(i), tested);
        }
        for (int i = 0; i < codes.size(); i++) {
            Code each = codes.get(i);
            each.now.beginCycle();
            each.kept.copyFrom(each.now);
        }
        cycles++;
        return cycles;
    }

    public int status(int code) {
        Code known = find(code);
        return known == null ? UNKNOWN : known.now.status;
    }

    public int snapshot(int code, int which, int i) {
        Code known = find(code);
        if (known == null || known.entry == null) {
            return UNKNOWN;
        }
        if (!isWithin(which, 0, 1) || !isWithin(i, 0, 3)) {
            return OUT_OF_RANGE;
        }
        Snapshot asked = which == 0 ? known.entry.first : known.entry.last;
        return asked.number(i);
    }

    public int clear(int group) {
        if (!isWithin(group, 0, GROUPS)) {
            return OUT_OF_RANGE;
        }
        if (!powered || !isOn(CLEARING_CONDITION)) {
            return WRONG_STATE;
        }
        int cleared = 0;
        for (int i = 0; i < codes.size(); i++) {
            Code each = codes.get(i);
            if (group == 0 || each.group() == group) {
                each.forget();
                memory.drop(each);
                cleared++;
            }
        }
        return cleared;
    }

    public int parent(int code, int other) {
        Code child = find(code);
        Code above = find(other);
        if (child == null || (above == null && other != 0)) {
            return UNKNOWN;
        }
        if (child == above) {
            return OUT_OF_RANGE;
        }
        if (!powered || (above != null && above.isBelow(child))) {
            return WRONG_STATE;
        }
        child.parent = above;
        return child.countAbove();
    }

    public int enable(int condition, boolean on) {
        if (!isWithin(condition, 0, CONDITIONS - 1)) {
            return UNKNOWN;
        }
        if (!powered) {
            return WRONG_STATE;
        }
        int bit = 1 << condition;
        conditions = on ? conditions | bit : conditions & ~bit;
        return Integer.bitCount(conditions);
    }

    public int lamp(int kind) {
        switch (kind) {
            case 0:
                return countCodesWith(LAMP) > 0 ? 1 : 0;
            case 1:
                return countCodesWith(CONFIRMED);
            case 2:
                return countCodesWith(PENDING);
            case 3:
                return countCodesWith(FAILED);
            default:
                return OUT_OF_RANGE;
        }
    }

    public int stored(int i, int what) {
        if (i == -1 && what == 0) {
            return memory.entries.size();
        }
        if (!isWithin(i, 0, memory.entries.size() - 1)) {
            return UNKNOWN;
        }
        Entry asked = memory.entries.get(i);
        switch (what) {
            case 0:
                return asked.owner.number;
            case 1:
                return asked.happened;
            case 2:
                return asked.owner.priority;
            default:
                return OUT_OF_RANGE;
        }
    }

    public int cut() {
        if (!powered) {
            return WRONG_STATE;
        }
        powered = false;
        return memory.entries.size();
    }

    public int start() {
        if (powered) {
            return WRONG_STATE;
        }
        // What the cut loses is lost only here: until now it is still told.
        for (int i = 0; i < codes.size(); i++) {
            Code each = codes.get(i);
            each.now.copyFrom(each.kept);
            each.counter = 0;
        }
        conditions = ALL_ON;
        powered = true;
        return memory.entries.size();
    }

    public int displaced(int i) {
        if (!isWithin(i, 0, memory.displacedCodes.size() - 1)) {
            return UNKNOWN;
        }
        return memory.displacedCodes.get(i).number;
    }

    public int age(int code) {
        Code known = find(code);
        return known == null ? UNKNOWN : known.now.age;
    }

    private static boolean isWithin(int number, int least, int most) {
        return number >= least && number <= most;
    }

    /** The code of that number, or null. */
    private Code find(int number) {
        return isWithin(number, 1, codes.size()) ? codes.get(number - 1) : null;
    }

    private boolean isOn(int condition) {
        return (conditions & (1 << condition)) != 0;
    }

    private int countCodesWith(int bit) {
        int count = 0;
        for (int i = 0; i < codes.size(); i++) {
            if (codes.get(i).now.has(bit)) {
                count++;
            }
        }
        return count;
    }

    /** A counter that has come to an end, or was there already, is a test. */
    private void judge(Code tested) {
        if (tested.counter == COUNTER_PASSED) {
            tested.now.pass();
        } else if (tested.counter == COUNTER_FAILED) {
            boolean failedBefore = tested.now.has(FAILED);
            tested.now.fail(tested.priority <= LAST_LAMP_PRIORITY);
            if (!failedBefore && !tested.isHidden()) {
                memory.store(tested, takeSnapshot(tested));
            }
        }
    }

    private Snapshot takeSnapshot(Code taken) {
        return new Snapshot(cycles, events, countCodesWith(FAILED), taken.up);
    }

    private void endCycle(Code ending, boolean tested) {
        if (!ending.now.wasOnlyGood()) {
            return;
        }
        ending.now.addGoodCycle();
        if (tested && ending.now.ages()) {
            ending.now.age++;
            if (ending.now.age >= AGE_TO_FORGET) {
                ending.now.heal();
                memory.drop(ending);
            }
        }
    }

    /** What a code has that a cycle's end keeps over a cut of the power. */
    private static final class Standing {
        int status = STATUS_AT_FIRST;
        int trips = 0;
        int age = 0;
        int good = 0;

        boolean has(int bit) {
            return (status & bit) != 0;
        }

        void copyFrom(Standing other) {
            status = other.status;
            trips = other.trips;
            age = other.age;
            good = other.good;
        }

        void reset() {
            status = STATUS_AT_FIRST;
            trips = 0;
            age = 0;
            good = 0;
        }

        void pass() {
            status &= ~(FAILED | NOT_TESTED_SINCE_CLEARING | NOT_TESTED_THIS_CYCLE);
        }

        void fail(boolean lightsLamp) {
            status &= ~(NOT_TESTED_SINCE_CLEARING | NOT_TESTED_THIS_CYCLE);
            if (!has(FAILED_THIS_CYCLE)) {
                trips = Math.min(trips + 1, MOST_COUNTED);
            }
            if (trips >= TRIPS_TO_CONFIRM) {
                status |= lightsLamp ? CONFIRMED | LAMP : CONFIRMED;
            }
            status |= FAILED | FAILED_THIS_CYCLE | PENDING | FAILED_SINCE_CLEARING;
            age = 0;
            good = 0;
        }

        /** Tested in this cycle, and never failed in it. */
        boolean wasOnlyGood() {
            return !has(FAILED_THIS_CYCLE) && !has(NOT_TESTED_THIS_CYCLE);
        }

        void addGoodCycle() {
            status &= ~PENDING;
            if (!has(CONFIRMED)) {
                trips = 0;
            }
            good = Math.min(good + 1, MOST_COUNTED);
            if (good >= GOOD_TO_DARKEN) {
                status &= ~LAMP;
            }
        }

        boolean ages() {
            return has(CONFIRMED) && !has(FAILED);
        }

        void heal() {
            status &= ~CONFIRMED;
            trips = 0;
            age = 0;
            good = 0;
        }

        void beginCycle() {
            status &= ~FAILED_THIS_CYCLE;
            status |= NOT_TESTED_THIS_CYCLE;
        }
    }

    private static final class Code {
        final int number;
        final int priority;
        final int up;
        final int down;
        final Standing now = new Standing();
        final Standing kept = new Standing();
        int counter = 0;
        /** Null while it has none. */
        Code parent = null;
        /** Null while the memory has none of it. */
        Entry entry = null;

        Code(int number, int priority, int up, int down) {
            this.number = number;
            this.priority = priority;
            this.up = up;
            this.down = down;
        }

        int group() {
            return 1 + (priority - 1) / PRIORITIES_OF_A_GROUP;
        }

        int condition() {
            return number % CONDITIONS;
        }

        void count(boolean failed) {
            if (failed) {
                counter = Math.min(Math.max(counter, 0) + up, COUNTER_FAILED);
            } else {
                counter = Math.max(Math.min(counter, 0) - down, COUNTER_PASSED);
            }
        }

        void forget() {
            now.reset();
            kept.reset();
            counter = 0;
        }

        int countAbove() {
            int count = 0;
            for (Code above = parent; above != null && count < MOST_CODES; above = above.parent) {
                count++;
            }
            return count;
        }

        boolean isBelow(Code other) {
            Code above = parent;
            for (int i = 0; i < MOST_CODES && above != null; i++) {
                if (above == other) {
                    return true;
                }
                above = above.parent;
            }
            return false;
        }

        /** A failed code above it hides it from the memory. */
        boolean isHidden() {
            Code above = parent;
            for (int i = 0; i < MOST_CODES && above != null; i++) {
                if (above.now.has(FAILED)) {
                    return true;
                }
                above = above.parent;
            }
            return false;
        }
    }

    private static final class Snapshot {
        final int cycles;
        final int events;
        final int failedCodes;
        final int up;

        Snapshot(int cycles, int events, int failedCodes, int up) {
            this.cycles = cycles;
            this.events = events;
            this.failedCodes = failedCodes;
            this.up = up;
        }

        int number(int i) {
            switch (i) {
                case 0:
                    return cycles;
                case 1:
                    return events;
                case 2:
                    return failedCodes;
                default:
                    return up;
            }
        }
    }

    private static final class Entry {
        final Code owner;
        final Snapshot first;
        Snapshot last;
        int happened = 1;

        Entry(Code owner, Snapshot first) {
            this.owner = owner;
            this.first = first;
            this.last = first;
        }

        void happenAgain(Snapshot latest) {
            happened = Math.min(happened + 1, MOST_COUNTED);
            last = latest;
        }

        boolean mayGoFor(Code comer) {
            return owner.priority > comer.priority
                    || (owner.priority == comer.priority && !owner.now.has(FAILED));
        }

        /** Of equals none goes before the other, so that the one stored first is found first. */
        boolean goesBefore(Entry other) {
            if (owner.priority != other.owner.priority) {
                return owner.priority > other.owner.priority;
            }
            return !owner.now.has(FAILED) && other.owner.now.has(FAILED);
        }
    }

    /** The entries, in the order in which they were stored, and what had to go for others. */
    private static final class Memory {
        final int room;
        final ArrayList<Entry> entries = new ArrayList<>();
        final ArrayList<Code> displacedCodes = new ArrayList<>();

        Memory(int room) {
            this.room = room;
        }

        void store(Code comer, Snapshot taken) {
            if (comer.entry != null) {
                comer.entry.happenAgain(taken);
            } else if (entries.size() < room || displaceFor(comer)) {
                comer.entry = new Entry(comer, taken);
                entries.add(comer.entry);
            }
        }

        /** Whether an entry has gone. */
        private boolean displaceFor(Code comer) {
            Entry going = null;
            for (int i = 0; i < entries.size(); i++) {
                Entry each = entries.get(i);
                if (each.mayGoFor(comer) && (going == null || each.goesBefore(going))) {
                    going = each;
                }
            }
            if (going == null) {
                return false;
            }
            if (displacedCodes.size() < MOST_DISPLACED) {
                displacedCodes.add(going.owner);
            }
            drop(going.owner);
            return true;
        }

        /** The code's entry, if it has one, goes. */
        void drop(Code owner) {
            if (owner.entry == null) {
                return;
            }
            for (int i = 0; i < entries.size(); i++) {
                if (entries.get(i) == owner.entry) {
                    entries.remove(i);
                    break;
                }
            }
            owner.entry = null;
        }
    }
}
