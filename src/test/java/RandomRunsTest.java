import java.util.ArrayList;
import java.util.List;
import java.util.Random;

/** All promises: random runs of 512 calls, each answer beside the model's. */
public final class RandomRunsTest {
    private static final int RUNS = 6000;
    private static final int CALLS = 512;
    private static final int[] PRIORITIES = {1, 20, 20, 32, 33, 64, 65, 200, 255};
    private static final int[] STEPS = {127, 127, 127, 127, 64, 63, 1, 126};
    private static final int[] ODD = {
        Integer.MIN_VALUE, -129, -2, -1, 0, 1, 2, 3, 4, 8, 9, 31, 32, 127, 128, 200, 201, 255, 256,
        499, 500, 65536, 65537, Integer.MAX_VALUE,
    };

    private final Random random;
    private final TroubleMemory real;
    private final PlainModel model;
    private final List<String> told = new ArrayList<>();
    private int want;
    private int got;
    private int codes = 0;
    private boolean isCut = false;
    /** Some runs hardly ever fail, so that codes come to age. */
    private final boolean calm;
    private final int mostCodes;

    private RandomRunsTest(int seed) {
        random = new Random(seed);
        int room = random.nextInt(8) == 0 ? ODD[random.nextInt(ODD.length)] : random.nextInt(5);
        calm = random.nextInt(3) == 0;
        mostCodes = random.nextInt(40) == 0 ? 210 : 1 + random.nextInt(calm ? 3 : 8);
        real = new TroubleMemory(room);
        model = new PlainModel(room);
        told.add("new TroubleMemory(" + room + ")");
    }

    public static void main(String[] args) {
        for (int seed = 0; seed < RUNS; seed++) {
            RandomRunsTest run = new RandomRunsTest(seed);
            for (int i = 0; i < CALLS; i++) {
                run.call();
                if (run.want != run.got) {
                    run.tell(seed);
                    System.exit(1);
                }
            }
        }
    }

    private void tell(int seed) {
        System.out.println("run of seed " + seed + ":");
        told.forEach(System.out::println);
        System.out.println("answered " + got + ", the model's answer is " + want);
    }

    private void note(String call, int wanted, int gotten) {
        told.add(call + " = " + gotten);
        want = wanted;
        got = gotten;
    }

    private int odd() {
        return ODD[random.nextInt(ODD.length)];
    }

    /** Mostly one of 0 .. most. */
    private int upTo(int most) {
        return random.nextInt(25) == 0 ? odd() : random.nextInt(most + 1);
    }

    private int known() {
        return random.nextInt(25) == 0 ? odd() : 1 + random.nextInt(Math.max(codes, 1));
    }

    private void call() {
        if (isCut && random.nextInt(15) == 0) {
            callStart();
            return;
        }
        if (codes < mostCodes && random.nextInt(3) < (mostCodes > 200 ? 2 : 1)) {
            callCode();
            return;
        }
        int kind = random.nextInt(100);
        if (kind < 45) {
            callEvent();
        } else if (kind < (calm ? 80 : 60)) {
            boolean tested = random.nextInt(5) != 0;
            note("cycle(" + tested + ")", model.cycle(tested), real.cycle(tested));
        } else if (kind < 90) {
            callTelling();
        } else if (calm && kind < 98) {
            callEvent();
        } else {
            callRare();
        }
    }

    private void callCode() {
        int priority = upTo(8) < 9 ? PRIORITIES[random.nextInt(PRIORITIES.length)] : odd();
        int up = random.nextInt(25) == 0 ? odd() : STEPS[random.nextInt(STEPS.length)];
        int down = random.nextInt(25) == 0 ? odd() : STEPS[random.nextInt(STEPS.length)];
        note("code(" + priority + ", " + up + ", " + down + ")",
                model.code(priority, up, down), real.code(priority, up, down));
        codes = Math.max(codes, got);
    }

    private void callEvent() {
        int code = known();
        boolean failed = calm ? random.nextInt(40) == 0 || told.size() < 20 : random.nextInt(5) < 2;
        note("event(" + code + ", " + failed + ")", model.event(code, failed), real.event(code, failed));
    }

    private void callTelling() {
        int code = known();
        int i = upTo(4);
        int which = upTo(1);
        switch (random.nextInt(6)) {
            case 0:
                note("status(" + code + ")", model.status(code), real.status(code));
                break;
            case 1:
                note("snapshot(" + code + ", " + which + ", " + i + ")",
                        model.snapshot(code, which, i), real.snapshot(code, which, i));
                break;
            case 2:
                note("lamp(" + i + ")", model.lamp(i), real.lamp(i));
                break;
            case 3:
                int what = upTo(3);
                note("stored(" + (i - 1) + ", " + what + ")", model.stored(i - 1, what), real.stored(i - 1, what));
                break;
            case 4:
                note("displaced(" + i + ")", model.displaced(i), real.displaced(i));
                break;
            default:
                note("age(" + code + ")", model.age(code), real.age(code));
                break;
        }
    }

    private void callRare() {
        int number = upTo(31);
        int code = known();
        int other = random.nextInt(4) == 0 ? 0 : known();
        switch (random.nextInt(6)) {
            case 0:
                int group = number % 10;
                note("clear(" + group + ")", model.clear(group), real.clear(group));
                break;
            case 1:
            case 2:
                note("parent(" + code + ", " + other + ")", model.parent(code, other), real.parent(code, other));
                break;
            case 3:
                boolean on = random.nextBoolean();
                int condition = random.nextBoolean() ? number : code;
                note("enable(" + condition + ", " + on + ")", model.enable(condition, on), real.enable(condition, on));
                break;
            case 4:
                note("cut()", model.cut(), real.cut());
                isCut = true;
                break;
            default:
                callStart();
                break;
        }
    }

    private void callStart() {
        note("start()", model.start(), real.start());
        isCut = false;
    }
}
