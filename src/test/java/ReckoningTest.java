/** Promises 5 to 15: add, off, times, divide, shift, tidy, show, clear, back, grease and strike. */
public final class ReckoningTest {
    private static final Class<?> INDEX = IndexOutOfBoundsException.class;
    private static final Class<?> ARGUMENT = IllegalArgumentException.class;
    private static final Class<?> STATE = IllegalStateException.class;

    public static void main(String[] args) {
        Check check = new Check();
        adding(check);
        addingSpilled(check);
        takingOff(check);
        takingOffRefused(check);
        multiplying(check);
        dividing(check);
        shifting(check);
        tidying(check);
        showing(check);
        clearing(check);
        goingBack(check);
        keeping(check);
        greasing(check);
        striking(check);
        wrongArguments(check);
        check.end("ReckoningTest");
    }

    private static void adding(Check check) {
        SorobanHall hall = Halls.of(0, "0000");
        check.due("kept at first", hall.ofFrame(0, 8), 4);
        check.due("add 0", hall.add(0, 0), 0);
        check.due("kept also if no bead is moved", hall.ofFrame(0, 8), 5);
        check.due("add 1234", hall.add(0, 1234), 4);
        check.due("the HAND ends on the right", hall.ofFrame(0, 7), 0);
        check.due("from the left", hall.seconds(0), 4 * 0.25 + 10 * 0.0625 + 0.375 + 0.375);
        check.due("add 4", hall.add(0, 4), 2);
        check.due("text", hall.text(0), "1238");
        check.due("add 2 with a CARRY", hall.add(0, 2), 3);
        check.due("text with a CARRY", hall.text(0), "1240");
        check.due("CARRIES", hall.ofFrame(0, 4), 1);
        check.due("the HAND ends at the CARRY", hall.ofFrame(0, 7), 1);
        SorobanHall chinese = Halls.of(1, "0FF");
        chinese.add(0, 9);
        check.due("24 leaves 14, and 16 leaves 6", chinese.text(0), "16E");
        check.due("CARRIES of that", chinese.ofFrame(0, 4), 2);
        SorobanHall russian = Halls.of(2, "0AA");
        russian.add(0, 1);
        check.due("11 leaves 1, twice", russian.text(0), "111");
    }

    private static void addingSpilled(Check check) {
        SorobanHall hall = Halls.of(0, "99");
        check.due("add 99 to 99", hall.add(0, 99), 3);
        check.due("text", hall.text(0), "98");
        check.due("SPILLED", hall.ofFrame(0, 6), 1);
        check.due("CARRIES, with the SPILLED one", hall.ofFrame(0, 4), 2);
        hall.add(0, 2);
        check.due("text then", hall.text(0), "00");
        check.due("SPILLED then", hall.ofFrame(0, 6), 2);
        check.due("CARRIES then", hall.ofFrame(0, 4), 4);
    }

    private static void takingOff(Check check) {
        SorobanHall hall = Halls.of(0, "10003");
        check.due("off 5", hall.off(0, 5), 1 + 2 * 3 + 1);
        check.due("text", hall.text(0), "09998");
        check.due("LOANS", hall.ofFrame(0, 5), 1);
        check.due("CARRIES", hall.ofFrame(0, 4), 0);
        check.due("the HAND", hall.ofFrame(0, 7), 0);
        check.due("off 9998", hall.off(0, 9998), 8);
        check.due("text of 0", hall.text(0), "00000");
        check.due("off 0", hall.off(0, 0), 0);
        SorobanHall chinese = Halls.of(1, "302");
        chinese.off(0, 133);
        check.due("two LOANS", chinese.text(0), "169");
        check.due("LOANS of that", chinese.ofFrame(0, 5), 2);
        SorobanHall way = Halls.of(2, "100");
        double before = way.seconds(0);
        way.off(0, 1);
        check.due("the lender first, from the left on", way.seconds(0) - before,
                0.3125 + 0.125 + 0.8125 + 0.125 + 0.8125);
    }

    private static void takingOffRefused(Check check) {
        SorobanHall hall = Halls.of(0, "0123");
        check.dueUnchanged("more than NUMBER", hall, -2, h -> h.off(0, 124));
        check.dueUnchanged("much more than NUMBER", hall, -2, h -> h.off(0, 9999));
        check.due("just NUMBER", hall.off(0, 123), 3);
        SorobanHall untidy = Halls.of(1, "1A");
        check.dueUnchanged("not TIDY", untidy, -2, h -> h.off(0, 1));
        check.dueUnchanged("not TIDY, 0", untidy, -2, h -> h.off(0, 0));
        check.due("nothing kept", untidy.ofFrame(0, 8), 2);
        check.dueThrow("too many digits, though not TIDY", untidy, ARGUMENT, h -> h.off(0, 100));
    }

    private static void multiplying(Check check) {
        SorobanHall hall = Halls.of(0, "00123");
        check.due("times 7", hall.times(0, 7), 0);
        check.due("861", hall.text(0), "00861");
        check.due("times 1", hall.times(0, 1), 0);
        check.due("861 still", hall.text(0), "00861");
        check.due("times 0", hall.times(0, 0), 0);
        check.due("0", hall.text(0), "00000");
        SorobanHall spills = Halls.of(0, "99");
        check.due("99 times 9", spills.times(0, 9), 8);
        check.due("91", spills.text(0), "91");
        check.due("SPILLED", spills.ofFrame(0, 6), 8);
        // 15 * 9 = 135: 5 stays, 3 and 1 are SPILLED as digits.
        SorobanHall chinese = Halls.of(1, "F0");
        check.due("tens and hundreds SPILLED", chinese.times(0, 9), 4);
        check.due("ones stay", chinese.text(0), "50");
        SorobanHall low = Halls.of(1, "00F");
        check.due("nothing SPILLED", low.times(0, 9), 0);
        check.due("135", low.text(0), "135");
        SorobanHall hundred = Halls.of(1, "00D");
        hundred.times(0, 8);
        check.due("104", hundred.text(0), "104");
        check.due("what is SPILLED by that alone", chinese.times(0, 2), 1);
        check.due("SPILLED ever", chinese.ofFrame(0, 6), 5);
    }

    private static void dividing(Check check) {
        SorobanHall hall = Halls.of(0, "1000");
        check.due("divide 7", hall.divide(0, 7), 6);
        check.due("142", hall.text(0), "0142");
        check.due("divide 1", hall.divide(0, 1), 0);
        check.due("142 still", hall.text(0), "0142");
        SorobanHall chinese = Halls.of(1, "FF");
        check.due("divide 2", chinese.divide(0, 2), 1);
        check.due("7, 12", chinese.text(0), "7C");
        check.due("divide 9", chinese.divide(0, 9), 1);
        check.due("0, 9", chinese.text(0), "09");
    }

    private static void shifting(Check check) {
        SorobanHall hall = Halls.of(1, "F3A");
        check.due("left", hall.shift(0, true), 15);
        check.due("text", hall.text(0), "3A0");
        check.due("SPILLED", hall.ofFrame(0, 6), 15);
        check.due("the HAND on the right", hall.ofFrame(0, 7), 0);
        check.due("right", hall.shift(0, false), 0);
        check.due("text then", hall.text(0), "03A");
        check.due("right again", hall.shift(0, false), 10);
        check.due("text at last", hall.text(0), "003");
        check.due("what is gone is not SPILLED", hall.ofFrame(0, 6), 15);
        check.due("the HAND at the last ROD that changed", hall.ofFrame(0, 7), 1);
        SorobanHall way = Halls.of(2, "011");
        way.shift(0, true);
        check.due("left goes from the left on", way.ofFrame(0, 7), 0);
        SorobanHall other = Halls.of(2, "110");
        other.shift(0, false);
        check.due("right goes from the right on", other.ofFrame(0, 7), 2);
    }

    private static void tidying(Check check) {
        SorobanHall hall = Halls.of(1, "9FA");
        check.due("CARRIES of tidy", hall.tidy(0), 3);
        check.due("text", hall.text(0), "060");
        check.due("SPILLED", hall.ofFrame(0, 6), 1);
        check.due("CARRIES", hall.ofFrame(0, 4), 3);
        check.due("tidy again", hall.tidy(0), 0);
        check.due("kept", hall.ofFrame(0, 8), 5);
        SorobanHall russian = Halls.of(2, "0A9A");
        check.due("CARRIES by BRINGING", russian.tidy(0), 3);
        check.due("text of that", russian.text(0), "1100");
        check.due("9 is not above 9", Halls.of(0, "909").tidy(0), 0);
        SorobanHall top = Halls.of(2, "A0");
        check.due("CARRIES at the last ROD", top.tidy(0), 1);
        check.due("SPILLED there", top.ofFrame(0, 6), 1);
        check.due("text there", top.text(0), "00");
    }

    private static void showing(Check check) {
        SorobanHall hall = Halls.of(1, "0F5");
        hall.frame(0, 2);
        hall.frame(2, 4);
        check.dueUnchanged("155 has 3 digits", hall, -2, h -> h.show(0, 1));
        hall.set(2, 3, 9);
        check.due("show", hall.show(0, 2), 4);
        check.due("text", hall.text(2), "0155");
        check.due("the shown one is as it was", hall.text(0), "0F5");
        check.due("kept of the other one", hall.ofFrame(2, 8), 2);
        check.due("not of the shown one", hall.ofFrame(0, 8), 3);
        check.due("from the left on", hall.ofFrame(2, 7), 0);
        check.due("back of the other one", hall.back(2), 1);
        check.due("text before", hall.text(2), "9000");
        check.due("on itself", hall.show(0, 0), 2);
        check.due("its own digits", hall.text(0), "155");
        hall.clear(0);
        hall.add(0, 99);
        hall.show(0, 1);
        check.due("99 has 2 digits", hall.text(1), "99");
        hall.add(0, 1);
        check.dueUnchanged("100 has 3 digits", hall, -2, h -> h.show(0, 1));
        check.dueThrow("no frame 3", hall, INDEX, h -> h.show(3, 0));
        check.dueThrow("no other 3", hall, INDEX, h -> h.show(0, 3));
        check.dueThrow("no frame -1", hall, INDEX, h -> h.show(-1, 1));
        check.dueThrow("no other -1", hall, INDEX, h -> h.show(0, -1));
    }

    private static void clearing(Check check) {
        SorobanHall hall = Halls.of(1, "F06");
        check.due("clear", hall.clear(0), 4);
        check.due("text", hall.text(0), "000");
        check.due("from the left", hall.ofFrame(0, 7), 0);
        check.due("clear again", hall.clear(0), 0);
        check.due("kept", hall.ofFrame(0, 8), 5);
    }

    private static void goingBack(Check check) {
        SorobanHall hall = new SorobanHall();
        hall.frame(2, 2);
        check.dueThrow("none kept", hall, STATE, h -> h.back(0));
        for (int value = 1; value <= 13; value++) {
            hall.set(0, value % 2, value % 10);
            check.due("kept", hall.ofFrame(0, 8), Math.min(value, 12));
        }
        int pushes = hall.ofFrame(0, 2);
        int beads = hall.ofFrame(0, 3);
        double seconds = hall.seconds(0);
        int wear = hall.ofRod(0, 0, 4);
        check.due("text at last", hall.text(0), backText(13));
        // 13 sets: what was ahead of the first one is gone for good.
        for (int k = 0; k < 12; k++) {
            check.due("kept still", hall.back(0), 11 - k);
            check.due("text " + k + " back", hall.text(0), backText(12 - k));
        }
        check.dueThrow("none kept any more", hall, STATE, h -> h.back(0));
        check.due("PUSHES stay", hall.ofFrame(0, 2), pushes);
        check.due("BEADS stay", hall.ofFrame(0, 3), beads);
        check.due("SECONDS stay", hall.seconds(0), seconds);
        check.due("WEAR stays", hall.ofRod(0, 0, 4), wear);
    }

    /** Each call that is kept, also if it moves no bead, and what it gives back. */
    private static void keeping(Check check) {
        SorobanHall hall = Halls.of(1, "1C7");
        dueKept(check, hall, "push", h -> h.push(0, 2, true, 1));
        dueKept(check, hall, "set", h -> h.set(0, 0, 15));
        dueKept(check, hall, "set to the same", h -> h.set(0, 0, 7));
        dueKept(check, hall, "add", h -> h.add(0, 789));
        dueKept(check, hall, "add 0", h -> h.add(0, 0));
        dueKept(check, hall, "times", h -> h.times(0, 9));
        dueKept(check, hall, "divide", h -> h.divide(0, 7));
        dueKept(check, hall, "shift left", h -> h.shift(0, true));
        dueKept(check, hall, "shift right", h -> h.shift(0, false));
        dueKept(check, hall, "tidy", h -> h.tidy(0));
        dueKept(check, hall, "show", h -> h.show(0, 0));
        dueKept(check, hall, "clear", h -> h.clear(0));
        hall.tidy(0);
        dueKept(check, hall, "off", h -> h.off(0, 199));
        dueKept(check, hall, "off 0", h -> h.off(0, 0));
        dueKept(check, hall, "tidy of a TIDY one", h -> h.tidy(0));
        check.due("NUMBER all the while", hall.number(0), 227L);
    }

    private static void dueKept(Check check, SorobanHall hall, String what, Check.Call call) {
        int kept = hall.ofFrame(0, 8);
        String before = Halls.beads(hall, 0);
        call.on(hall);
        check.due("kept by " + what, hall.ofFrame(0, 8), kept + 1);
        check.due("kept after " + what + " and back", hall.back(0), kept);
        check.due("UP and DOWN after " + what + " and back", Halls.beads(hall, 0), before);
    }

    /** The text after so many of the sets of goingBack(). */
    private static String backText(int sets) {
        int ones = 0;
        int tens = 0;
        for (int value = 1; value <= sets; value++) {
            if (value % 2 == 0) {
                ones = value % 10;
            } else {
                tens = value % 10;
            }
        }
        return "" + tens + ones;
    }

    private static void greasing(Check check) {
        SorobanHall hall = Halls.of(1, "0F");
        hall.set(0, 1, 7);
        check.due("grease", hall.grease(0, 0), 7);
        check.due("WEAR of ABOVE", hall.ofRod(0, 0, 3), 0);
        check.due("WEAR of BELOW", hall.ofRod(0, 0, 4), 0);
        check.due("the other ROD's WEAR", hall.ofRod(0, 1, 3) + hall.ofRod(0, 1, 4), 3);
        check.due("VALUE stays", hall.text(0), "7F");
        check.due("nothing kept by it", hall.ofFrame(0, 8), 3);
        check.due("SECONDS", hall.seconds(0), 2.0 + 4 * 0.25 + 10 * 0.0625 + 0.125);
        check.due("grease again", hall.grease(0, 0), 0);
        check.due("SECONDS then", hall.seconds(0), 4.0 + 4 * 0.25 + 10 * 0.0625 + 0.125);
        check.dueThrow("no frame", hall, INDEX, h -> h.grease(1, 0));
        check.dueThrow("no frame -1", hall, INDEX, h -> h.grease(-1, 0));
        check.dueThrow("no rod 2", hall, INDEX, h -> h.grease(0, 2));
        check.dueThrow("no rod -1", hall, INDEX, h -> h.grease(0, -1));
    }

    private static void striking(Check check) {
        SorobanHall hall = new SorobanHall();
        check.due("the first", hall.strike(), 1);
        check.due("the second", hall.strike(), 2);
        check.due("REFUSED", hall.many(1), 2);
    }

    private static void wrongArguments(Check check) {
        SorobanHall hall = Halls.of(0, "05");
        for (int wrong : new int[] {-1, 1, 4, Integer.MIN_VALUE, Integer.MAX_VALUE}) {
            check.dueThrow("add of no frame", hall, INDEX, h -> h.add(wrong, -1));
            check.dueThrow("off of no frame", hall, INDEX, h -> h.off(wrong, 100));
            check.dueThrow("times of no frame", hall, INDEX, h -> h.times(wrong, 10));
            check.dueThrow("divide of no frame", hall, INDEX, h -> h.divide(wrong, 0));
            check.dueThrow("shift of no frame", hall, INDEX, h -> h.shift(wrong, true));
            check.dueThrow("tidy of no frame", hall, INDEX, h -> h.tidy(wrong));
            check.dueThrow("clear of no frame", hall, INDEX, h -> h.clear(wrong));
            check.dueThrow("back of no frame", hall, INDEX, h -> h.back(wrong));
        }
        for (int wrong : new int[] {-1, 100, Integer.MIN_VALUE, Integer.MAX_VALUE}) {
            check.dueThrow("add of " + wrong, hall, ARGUMENT, h -> h.add(0, wrong));
            check.dueThrow("off of " + wrong, hall, ARGUMENT, h -> h.off(0, wrong));
            check.dueThrow("times " + wrong, hall, ARGUMENT, h -> h.times(0, wrong));
            check.dueThrow("divide " + wrong, hall, ARGUMENT, h -> h.divide(0, wrong));
        }
        check.dueThrow("times 10", hall, ARGUMENT, h -> h.times(0, 10));
        check.dueThrow("divide 10", hall, ARGUMENT, h -> h.divide(0, 10));
        check.dueThrow("divide 0", hall, ARGUMENT, h -> h.divide(0, 0));
        check.due("nothing kept by all of that", hall.ofFrame(0, 8), 2);
        check.due("add 94", hall.add(0, 94), 3);
        SorobanHall wide = Halls.of(0, "00000000");
        check.dueThrow("9 digits on 8 rods", wide, ARGUMENT, h -> h.add(0, 100000000));
        check.due("8 digits on 8 rods", wide.add(0, 99999999), 16);
    }
}
