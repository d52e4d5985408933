/** Promise 1. */
public final class NewObjectTest {
    private static final Due due = new Due();

    public static void main(String[] args) {
        holds(0, 20, 0);
        holds(1, 20, 1);
        holds(2, 20, 2);
        holds(9, 20, 9);
        holds(200, 200, 200);
        holds(65536, 200, 200);
        holds(-1, 20, 8);
        holds(65537, 20, 8);
        holds(Integer.MIN_VALUE, 20, 8);
        holds(Integer.MAX_VALUE, 20, 8);
        isEmptyAndOn();
        due.end();
    }

    private static void holds(int room, int codes, int entries) {
        TroubleMemory x = new TroubleMemory(room);
        for (int n = 1; n <= codes; n++) {
            x.code(9, 127, 127);
            x.event(n, true);
        }
        due.is(entries, x.stored(-1, 0), "entries in a room of " + room);
    }

    private static void isEmptyAndOn() {
        TroubleMemory x = new TroubleMemory(4);
        due.is(0, x.stored(-1, 0), "entries of a new object");
        due.is(-1, x.displaced(0), "displaced of a new object");
        due.is(-1, x.status(1), "status of a new object");
        due.is(0, x.lamp(0), "lamp of a new object");
        due.is(32, x.enable(0, true), "conditions of a new object");
        due.is(-3, x.start(), "start of a new object");
        due.is(1, x.cycle(true), "first cycle of a new object");
    }
}
