/** Promises 1 to 4: a new object, frame, push and set; with them HAND, SECONDS and WEAR. */
public final class PushesTest {
    private static final Class<?> INDEX = IndexOutOfBoundsException.class;
    private static final Class<?> ARGUMENT = IllegalArgumentException.class;
    private static final Class<?> STATE = IllegalStateException.class;

    public static void main(String[] args) {
        Check check = new Check();
        newObject(check);
        frames(check);
        pushing(check);
        pushingWrongly(check);
        setting(check);
        settingByFewestPushes(check);
        settingWrongly(check);
        hand(check);
        wear(check);
        check.end("PushesTest");
    }

    private static void newObject(Check check) {
        SorobanHall hall = new SorobanHall();
        for (int what = 0; what <= 4; what++) {
            check.due("many(" + what + ") of a new hall", hall.many(what), 0);
        }
        check.dueThrow("number(0) of a new hall", hall, INDEX, h -> h.number(0));
        check.due("digest() of a new hall", hall.digest(), 58320L * 31 * 31 * 31 * 31 * 31);
    }

    private static void frames(Check check) {
        SorobanHall hall = new SorobanHall();
        check.dueThrow("frame(-1, 2)", hall, ARGUMENT, h -> h.frame(-1, 2));
        check.dueThrow("frame(3, 2)", hall, ARGUMENT, h -> h.frame(3, 2));
        check.dueThrow("frame(0, 1)", hall, ARGUMENT, h -> h.frame(0, 1));
        check.dueThrow("frame(0, 9)", hall, ARGUMENT, h -> h.frame(0, 9));
        check.dueThrow("frame(MIN, MAX)", hall, ARGUMENT, h -> h.frame(Integer.MIN_VALUE, Integer.MAX_VALUE));
        check.due("frame(0, 2)", hall.frame(0, 2), 0);
        check.due("frame(1, 8)", hall.frame(1, 8), 1);
        check.due("frame(2, 3)", hall.frame(2, 3), 2);
        check.due("many(0)", hall.many(0), 3);
        check.due("frame(0, 4)", hall.frame(0, 4), 3);
        check.dueThrow("a fifth frame", hall, STATE, h -> h.frame(0, 2));
        check.dueThrow("a fifth frame of no kind", hall, ARGUMENT, h -> h.frame(3, 2));
        check.dueThrow("a fifth frame without rods", hall, ARGUMENT, h -> h.frame(0, 0));
        check.due("many(0) then", hall.many(0), 4);
        int[] kinds = {0, 1, 2, 0};
        int[] rods = {2, 8, 3, 4};
        for (int k = 0; k < 4; k++) {
            check.due("KIND of " + k, hall.ofFrame(k, 0), kinds[k]);
            check.due("RODS of " + k, hall.ofFrame(k, 1), rods[k]);
            for (int what = 2; what <= 12; what++) {
                check.due("ofFrame(" + k + ", " + what + ")", hall.ofFrame(k, what), what == 9 ? 1 : 0);
            }
            check.due("seconds of " + k, hall.seconds(k), 0.0);
        }
    }

    private static void pushing(Check check) {
        SorobanHall hall = new SorobanHall();
        hall.frame(1, 3);
        check.due("push 2 above", hall.push(0, 0, true, 2), 10);
        check.due("SECONDS of 2 beads", hall.seconds(0), 0.375);
        check.due("push 5 below", hall.push(0, 0, false, 5), 15);
        check.due("push 1 fewer above", hall.push(0, 0, true, -1), 10);
        check.due("push 5 fewer below", hall.push(0, 0, false, -5), 5);
        check.due("UP", hall.ofRod(0, 0, 1), 1);
        check.due("DOWN", hall.ofRod(0, 0, 2), 0);
        check.due("WEAR of ABOVE", hall.ofRod(0, 0, 3), 3);
        check.due("WEAR of BELOW", hall.ofRod(0, 0, 4), 10);
        check.due("PUSHES", hall.ofFrame(0, 2), 4);
        check.due("BEADS", hall.ofFrame(0, 3), 13);
        check.due("kept", hall.ofFrame(0, 8), 4);
        check.due("SECONDS", hall.seconds(0), 4 * 0.25 + 13 * 0.0625);
        check.due("push at rod 2", hall.push(0, 2, false, 1), 1);
        check.due("SECONDS with the HAND's way", hall.seconds(0), 5 * 0.25 + 14 * 0.0625 + 0.25);
        check.due("HAND", hall.ofFrame(0, 7), 2);
    }

    private static void pushingWrongly(Check check) {
        SorobanHall hall = new SorobanHall();
        hall.frame(0, 2);
        hall.frame(2, 3);
        hall.push(0, 1, false, 2);
        check.dueThrow("no frame -1", hall, INDEX, h -> h.push(-1, 0, true, 1));
        check.dueThrow("no frame 2", hall, INDEX, h -> h.push(2, 0, true, 0));
        check.dueThrow("no frame 4", hall, INDEX, h -> h.push(4, 0, true, 0));
        check.dueThrow("no rod -1", hall, INDEX, h -> h.push(0, -1, true, 0));
        check.dueThrow("no rod 2", hall, INDEX, h -> h.push(0, 2, true, 9));
        check.dueThrow("no beads", hall, ARGUMENT, h -> h.push(0, 0, true, 0));
        check.dueThrow("2 of 1 above", hall, STATE, h -> h.push(0, 0, true, 2));
        check.dueThrow("1 fewer of 0 above", hall, STATE, h -> h.push(0, 0, true, -1));
        check.dueThrow("3 of 2 left below", hall, STATE, h -> h.push(0, 1, false, 3));
        check.dueThrow("3 fewer of 2 below", hall, STATE, h -> h.push(0, 1, false, -3));
        check.dueThrow("none above", hall, STATE, h -> h.push(1, 0, true, 1));
        check.dueThrow("11 of 10 below", hall, STATE, h -> h.push(1, 0, false, 11));
        check.dueThrow("the most beads", hall, STATE, h -> h.push(0, 1, false, Integer.MAX_VALUE));
        check.dueThrow("the fewest beads", hall, STATE, h -> h.push(0, 1, false, Integer.MIN_VALUE));
        check.due("all 10 below", hall.push(1, 0, false, 10), 10);
        check.due("the 2 left below", hall.push(0, 1, false, 2), 4);
        check.due("nothing kept by those that threw", hall.back(0), 1);
        check.due("VALUE before the last push", hall.ofRod(0, 1, 0), 2);
    }

    private static void setting(Check check) {
        int[] most = {9, 15, 10};
        for (int kind = 0; kind <= 2; kind++) {
            SorobanHall hall = new SorobanHall();
            hall.frame(kind, 2);
            for (int value = most[kind]; value >= 0; value--) {
                hall.set(0, 1, value);
                check.due("VALUE " + value + " of kind " + kind, hall.ofRod(0, 1, 0), value);
                check.due("the same VALUE " + value, hall.set(0, 1, value), 0);
            }
        }
        SorobanHall hall = new SorobanHall();
        hall.frame(0, 3);
        check.due("nothing has to change", hall.set(0, 2, 0), 0);
        check.due("the HAND did not go", hall.ofFrame(0, 7), 0);
        check.due("no SECONDS", hall.seconds(0), 0.0);
        check.due("kept all the same", hall.ofFrame(0, 8), 1);
        check.due("both DECKS", hall.set(0, 2, 7), 2);
        check.due("SECONDS of both DECKS, the way once", hall.seconds(0), 0.25 + 0.3125 + 0.375);
    }

    /** The rod is brought to fromUp, fromDown, then SET. */
    private static void dueSet(Check check, int fromUp, int fromDown, int value, int pushes, int up, int down) {
        SorobanHall hall = new SorobanHall();
        hall.frame(1, 2);
        if (fromUp > 0) {
            hall.push(0, 0, true, fromUp);
        }
        if (fromDown > 0) {
            hall.push(0, 0, false, fromDown);
        }
        String what = "from " + fromUp + "," + fromDown + " to " + value;
        check.due("PUSHES " + what, hall.set(0, 0, value), pushes);
        check.due("UP " + what, hall.ofRod(0, 0, 1), up);
        check.due("DOWN " + what, hall.ofRod(0, 0, 2), down);
    }

    private static void settingByFewestPushes(Check check) {
        dueSet(check, 0, 0, 5, 1, 1, 0);
        dueSet(check, 0, 3, 5, 1, 0, 5);
        dueSet(check, 1, 4, 10, 1, 1, 5);
        dueSet(check, 0, 0, 10, 1, 2, 0);
        dueSet(check, 1, 5, 10, 0, 1, 5);
        dueSet(check, 2, 0, 10, 0, 2, 0);
        // One PUSH either way: 5 beads below, or 1 above.
        dueSet(check, 1, 5, 5, 1, 0, 5);
        dueSet(check, 2, 5, 10, 1, 1, 5);
        // One PUSH of 4 beads goes ahead of two PUSHES of 2 beads together.
        dueSet(check, 1, 4, 5, 1, 1, 0);
        dueSet(check, 1, 1, 10, 1, 1, 5);
        // Two PUSHES and as many beads either way: the greater UP.
        dueSet(check, 2, 3, 5, 2, 1, 0);
        dueSet(check, 0, 2, 10, 2, 2, 0);
        // Two PUSHES either way, but fewer beads with the smaller UP.
        dueSet(check, 2, 4, 5, 2, 0, 5);
        dueSet(check, 0, 3, 10, 2, 1, 5);
        dueSet(check, 0, 1, 10, 2, 2, 0);
        dueSet(check, 2, 5, 0, 2, 0, 0);
    }

    private static void settingWrongly(Check check) {
        SorobanHall hall = new SorobanHall();
        hall.frame(0, 2);
        hall.frame(1, 2);
        hall.frame(2, 2);
        check.dueThrow("no frame -1", hall, INDEX, h -> h.set(-1, 0, 99));
        check.dueThrow("no frame 3", hall, INDEX, h -> h.set(3, 0, 1));
        check.dueThrow("no rod -1", hall, INDEX, h -> h.set(0, -1, 99));
        check.dueThrow("no rod 2", hall, INDEX, h -> h.set(0, 2, 1));
        for (int k = 0; k <= 2; k++) {
            int frame = k;
            int tooMuch = k == 0 ? 10 : k == 1 ? 16 : 11;
            check.dueThrow("below 0", hall, ARGUMENT, h -> h.set(frame, 0, -1));
            check.dueThrow("above MOST of kind " + k, hall, ARGUMENT, h -> h.set(frame, 0, tooMuch));
            check.due("nothing is kept", hall.ofFrame(k, 8), 0);
        }
    }

    private static void hand(Check check) {
        SorobanHall hall = new SorobanHall();
        hall.frame(2, 8);
        hall.set(0, 7, 1);
        check.due("the way of 7", hall.seconds(0), 0.875 + 0.3125);
        check.due("HAND at 7", hall.ofFrame(0, 7), 7);
        hall.set(0, 5, 1);
        check.due("the way of 2 to the right", hall.seconds(0), 0.875 + 0.25 + 2 * 0.3125);
        hall.set(0, 5, 2);
        check.due("no way", hall.seconds(0), 0.875 + 0.25 + 3 * 0.3125);
        hall.back(0);
        hall.grease(0, 0);
        check.due("HAND stays", hall.ofFrame(0, 7), 5);
        check.due("SECONDS stay but for the grease", hall.seconds(0), 0.875 + 0.25 + 3 * 0.3125 + 2.0);
    }

    private static void wear(Check check) {
        SorobanHall hall = new SorobanHall();
        hall.frame(2, 2);
        for (int k = 0; k < 3; k++) {
            hall.push(0, 0, false, k % 2 == 0 ? 10 : -10);
        }
        hall.push(0, 0, false, -9);
        check.due("WEAR 39", hall.ofRod(0, 0, 4), 39);
        check.due("not WORN", hall.ofRod(0, 0, 5), 0);
        double before = hall.seconds(0);
        hall.push(0, 0, false, 1);
        check.due("WEAR ahead of the PUSH counts", hall.seconds(0) - before, 0.3125);
        check.due("WEAR 40", hall.ofRod(0, 0, 4), 40);
        check.due("WORN", hall.ofRod(0, 0, 5), 1);
        hall.push(0, 0, false, 1);
        check.due("twice the time when WORN", hall.seconds(0) - before, 0.3125 + 0.625);
        hall.push(0, 1, false, 1);
        check.due("the HAND's way is not doubled, the other ROD not WORN",
                hall.seconds(0) - before, 0.3125 + 0.625 + 0.125 + 0.3125);
        SorobanHall japanese = new SorobanHall();
        japanese.frame(0, 2);
        for (int k = 0; k < 20; k++) {
            japanese.push(0, 0, true, 1);
            japanese.push(0, 0, true, -1);
        }
        check.due("WEAR of ABOVE 40", japanese.ofRod(0, 0, 3), 40);
        double then = japanese.seconds(0);
        japanese.set(0, 0, 6);
        check.due("ABOVE WORN, BELOW not", japanese.seconds(0) - then, 0.625 + 0.3125);
        check.due("one DECK WORN", japanese.ofRod(0, 0, 5), 1);
    }
}
