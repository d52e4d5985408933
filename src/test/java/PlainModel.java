import java.util.ArrayList;
import java.util.Comparator;
import java.util.List;
import java.util.Optional;

/** The document's words a second time, written for being read beside them and not for speed. */
final class PlainModel {
    private static final class Trouble {
        int number;
        int priority;
        int up;
        int down;
        int above;
        int counter;
        /** Status, trips, age, good cycles. */
        int[] now = {80, 0, 0, 0};
        int[] kept = {80, 0, 0, 0};

        boolean bit(int n) {
            return (now[0] >> n & 1) == 1;
        }

        void set(int... bits) {
            for (int n : bits) {
                now[0] |= 1 << n;
            }
        }

        void unset(int... bits) {
            for (int n : bits) {
                now[0] &= ~(1 << n);
            }
        }
    }

    private static final class Held {
        Trouble trouble;
        int happened = 1;
        int[] first;
        int[] last;
    }

    private final int room;
    private final List<Trouble> troubles = new ArrayList<>();
    private final List<Held> held = new ArrayList<>();
    private final List<Integer> gone = new ArrayList<>();
    private final boolean[] off = new boolean[32];
    private boolean cut = false;
    private int cycles = 0;
    private int events = 0;

    PlainModel(int room) {
        this.room = room < 0 || room > 65536 ? 8 : room;
    }

    int code(int priority, int up, int down) {
        if (priority < 1 || priority > 255 || up < 1 || up > 127 || down < 1 || down > 127) {
            return -2;
        }
        if (cut) {
            return -3;
        }
        if (troubles.size() == 200) {
            return -4;
        }
        Trouble t = new Trouble();
        t.number = troubles.size() + 1;
        t.priority = priority;
        t.up = up;
        t.down = down;
        troubles.add(t);
        return t.number;
    }

    int event(int code, boolean failed) {
        if (!known(code)) {
            return -1;
        }
        if (cut) {
            return -3;
        }
        events++;
        Trouble t = get(code);
        if (off[code % 32]) {
            return t.now[0];
        }
        if (failed) {
            t.counter = t.counter < 0 ? 0 : t.counter;
            t.counter = t.counter + t.up > 127 ? 127 : t.counter + t.up;
        } else {
            t.counter = t.counter > 0 ? 0 : t.counter;
            t.counter = t.counter - t.down < -128 ? -128 : t.counter - t.down;
        }
        if (t.counter == -128) {
            t.unset(0, 4, 6);
        }
        if (t.counter == 127) {
            testFailed(t);
        }
        return t.now[0];
    }

    private void testFailed(Trouble t) {
        t.unset(4, 6);
        if (!t.bit(1) && t.now[1] < 255) {
            t.now[1]++;
        }
        if (t.now[1] >= 2) {
            t.set(3);
            if (t.priority <= 64) {
                t.set(7);
            }
        }
        t.set(1, 2, 5);
        t.now[2] = 0;
        t.now[3] = 0;
        if (!t.bit(0)) {
            t.set(0);
            if (chain(t.number).stream().noneMatch(n -> get(n).bit(0))) {
                store(t);
            }
        }
    }

    private void store(Trouble t) {
        int[] shot = {cycles, events, (int) troubles.stream().filter(o -> o.bit(0)).count(), t.up};
        Held own = entryOf(t.number);
        if (own != null) {
            own.happened = own.happened == 255 ? 255 : own.happened + 1;
            own.last = shot;
            return;
        }
        if (held.size() >= room) {
            Optional<Held> goes = held.stream()
                    .filter(h -> h.trouble.priority > t.priority
                            || h.trouble.priority == t.priority && !h.trouble.bit(0))
                    .min(Comparator.<Held>comparingInt(h -> -h.trouble.priority)
                            .thenComparing(h -> h.trouble.bit(0))
                            .thenComparing(held::indexOf));
            if (goes.isEmpty()) {
                return;
            }
            gone.add(goes.get().trouble.number);
            held.remove(goes.get());
        }
        Held h = new Held();
        h.trouble = t;
        h.first = shot;
        h.last = shot;
        held.add(h);
    }

    int cycle(boolean tested) {
        if (cut) {
            return -3;
        }
        for (Trouble t : troubles) {
            if (!t.bit(1) && !t.bit(6)) {
                t.unset(2);
                t.now[1] = t.bit(3) ? t.now[1] : 0;
                t.now[3] = t.now[3] == 255 ? 255 : t.now[3] + 1;
                if (t.now[3] >= 3) {
                    t.unset(7);
                }
                if (tested && t.bit(3) && !t.bit(0)) {
                    t.now[2]++;
                    if (t.now[2] == 40) {
                        t.unset(3);
                        t.now = new int[] {t.now[0], 0, 0, 0};
                        held.remove(entryOf(t.number));
                    }
                }
            }
        }
        for (Trouble t : troubles) {
            t.unset(1);
            t.set(6);
            t.kept = t.now.clone();
        }
        return ++cycles;
    }

    int status(int code) {
        return known(code) ? get(code).now[0] : -1;
    }

    int snapshot(int code, int which, int i) {
        if (!known(code) || entryOf(code) == null) {
            return -1;
        }
        if (which < 0 || which > 1 || i < 0 || i > 3) {
            return -2;
        }
        return (which == 0 ? entryOf(code).first : entryOf(code).last)[i];
    }

    int clear(int group) {
        if (group < 0 || group > 8) {
            return -2;
        }
        if (cut || off[31]) {
            return -3;
        }
        int count = 0;
        for (Trouble t : troubles) {
            if (group == 0 || group == 1 + (t.priority - 1) / 32) {
                t.now = new int[] {80, 0, 0, 0};
                t.kept = t.now.clone();
                t.counter = 0;
                held.remove(entryOf(t.number));
                count++;
            }
        }
        return count;
    }

    int parent(int code, int other) {
        if (!known(code) || other != 0 && !known(other)) {
            return -1;
        }
        if (code == other) {
            return -2;
        }
        if (cut || other != 0 && chain(other).contains(code)) {
            return -3;
        }
        get(code).above = other;
        return chain(code).size();
    }

    int enable(int condition, boolean on) {
        if (condition < 0 || condition > 31) {
            return -1;
        }
        if (cut) {
            return -3;
        }
        off[condition] = !on;
        int count = 0;
        for (boolean each : off) {
            count += each ? 0 : 1;
        }
        return count;
    }

    int lamp(int kind) {
        if (kind < 0 || kind > 3) {
            return -2;
        }
        int bit = new int[] {7, 3, 2, 0}[kind];
        int count = (int) troubles.stream().filter(t -> t.bit(bit)).count();
        return kind == 0 && count > 0 ? 1 : count;
    }

    int stored(int i, int what) {
        if (i == -1 && what == 0) {
            return held.size();
        }
        if (i < 0 || i >= held.size()) {
            return -1;
        }
        if (what < 0 || what > 2) {
            return -2;
        }
        Held h = held.get(i);
        return new int[] {h.trouble.number, h.happened, h.trouble.priority}[what];
    }

    int cut() {
        if (cut) {
            return -3;
        }
        cut = true;
        return held.size();
    }

    int start() {
        if (!cut) {
            return -3;
        }
        cut = false;
        for (Trouble t : troubles) {
            t.now = t.kept.clone();
            t.counter = 0;
        }
        java.util.Arrays.fill(off, false);
        return held.size();
    }

    int displaced(int i) {
        return i < 0 || i >= gone.size() || i >= 500 ? -1 : gone.get(i);
    }

    int age(int code) {
        return known(code) ? get(code).now[2] : -1;
    }

    private boolean known(int code) {
        return code >= 1 && code <= troubles.size();
    }

    private Trouble get(int code) {
        return troubles.get(code - 1);
    }

    private Held entryOf(int code) {
        return held.stream().filter(h -> h.trouble.number == code).findFirst().orElse(null);
    }

    /** All codes above that one. */
    private List<Integer> chain(int code) {
        List<Integer> all = new ArrayList<>();
        for (int n = get(code).above; n != 0; n = get(n).above) {
            all.add(n);
        }
        return all;
    }
}
