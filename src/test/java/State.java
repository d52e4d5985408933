/** States in which a call can be refused; each is made anew for every look at it. */
enum State {
    NEW, NO_ROOM, BUSY, CLEARING_OFF, FULL, NEW_CUT, NO_ROOM_CUT, BUSY_CUT, CLEARING_OFF_CUT, FULL_CUT;

    static final State[] ON = {NEW, NO_ROOM, BUSY, CLEARING_OFF, FULL};
    static final State[] CUT = {NEW_CUT, NO_ROOM_CUT, BUSY_CUT, CLEARING_OFF_CUT, FULL_CUT};

    TroubleMemory make() {
        TroubleMemory x = madeOn();
        if (ordinal() >= ON.length) {
            x.cut();
        }
        return x;
    }

    /** The state before the cut, if there was one. */
    TroubleMemory madeOn() {
        switch (ON[ordinal() % ON.length]) {
            case NEW:
                return new TroubleMemory(3);
            case NO_ROOM:
                return noRoom();
            case BUSY:
                return busy();
            case CLEARING_OFF:
                return clearingOff();
            default:
                return full();
        }
    }

    /** The codes that are worth a look, and the first number that is none. */
    int[] watched() {
        switch (ON[ordinal() % ON.length]) {
            case NEW:
                return new int[] {1};
            case NO_ROOM:
                return new int[] {1, 2, 3};
            case FULL:
                return new int[] {1, 200, 201};
            default:
                return new int[] {1, 2, 3, 4, 5, 6};
        }
    }

    private static TroubleMemory noRoom() {
        TroubleMemory x = Steps.memory(0, 9, 10);
        Steps.fail(x, 1);
        x.cycle(true);
        return x;
    }

    /** All that an object can have is in it, and none of it is as at first. */
    private static TroubleMemory busy() {
        TroubleMemory x = new TroubleMemory(2);
        x.code(10, 127, 127);
        x.code(64, 50, 60);
        x.code(65, 127, 127);
        x.code(200, 127, 127);
        x.code(255, 127, 40);
        x.parent(3, 2);
        x.parent(5, 3);
        Steps.fail(x, 4);
        Steps.fail(x, 5);
        // Full: code 5's entry goes.
        Steps.confirm(x, 1);
        x.cycle(true);
        Steps.goodCycles(x, 1, 1, true);
        x.event(1, false);
        x.event(2, true);
        x.event(3, false);
        x.enable(7, false);
        x.enable(4, false);
        return x;
    }

    private static TroubleMemory clearingOff() {
        TroubleMemory x = busy();
        x.enable(31, false);
        return x;
    }

    private static TroubleMemory full() {
        TroubleMemory x = new TroubleMemory(1);
        for (int n = 1; n <= 200; n++) {
            x.code(100, 127, 127);
        }
        Steps.fail(x, 1);
        Steps.fail(x, 200);
        return x;
    }
}
