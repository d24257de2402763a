/** Promises 16 to 21: number, ofRod, ofFrame, seconds, text and many. */
public final class AskedTest {
    private static final Class<?> INDEX = IndexOutOfBoundsException.class;
    private static final Class<?> ARGUMENT = IllegalArgumentException.class;

    public static void main(String[] args) {
        Check check = new Check();
        numbers(check);
        rods(check);
        frames(check);
        texts(check);
        halls(check);
        wrongArguments(check);
        check.end("AskedTest");
    }

    private static void numbers(Check check) {
        SorobanHall hall = new SorobanHall();
        hall.frame(1, 8);
        for (int rod = 0; rod < 8; rod++) {
            hall.set(0, rod, 15);
        }
        check.due("number of eight times 15", hall.number(0), 166666665L);
        check.due("modulo 11", hall.ofFrame(0, 11), (int) (166666665L % 11));
        check.due("sum of VALUES", hall.ofFrame(0, 10), 120);
        check.due("beads that count", hall.ofFrame(0, 12), 56);
        check.due("TIDY", hall.ofFrame(0, 9), 0);
        check.due("seconds", hall.seconds(0), 8 * (0.375 + 0.5625) + 7 * 0.125);
        hall.clear(0);
        hall.set(0, 3, 12);
        check.due("number", hall.number(0), 12000L);
    }

    private static void rods(Check check) {
        SorobanHall hall = new SorobanHall();
        hall.frame(1, 2);
        hall.set(0, 1, 13);
        hall.push(0, 1, false, -1);
        int[] due = {12, 2, 2, 2, 4, 0};
        for (int what = 0; what < due.length; what++) {
            int asked = what;
            check.dueUnchanged("ofRod " + what, hall, due[what], h -> h.ofRod(0, 1, asked));
            check.dueUnchanged("ofRod " + what + " of a still ROD", hall, 0, h -> h.ofRod(0, 0, asked));
        }
        for (int k = 0; k < 20; k++) {
            hall.push(0, 0, true, k % 2 == 0 ? 2 : -2);
            check.due("WORN " + k, hall.ofRod(0, 0, 5), k < 19 ? 0 : 1);
        }
        for (int k = 0; k < 8; k++) {
            hall.push(0, 0, false, k % 2 == 0 ? 5 : -5);
        }
        check.due("both WORN", hall.ofRod(0, 0, 5), 2);
        hall.grease(0, 0);
        check.due("none WORN", hall.ofRod(0, 0, 5), 0);
    }

    private static void frames(Check check) {
        SorobanHall hall = new SorobanHall();
        hall.frame(0, 2);
        hall.frame(2, 3);
        hall.add(1, 999);
        hall.off(1, 91);
        hall.add(1, 99);
        check.due("1007 has no ROD for its 1", hall.text(1), "007");
        hall.set(1, 2, 1);
        hall.off(1, 8);
        // PUSHES: 3, 2, 4, 1 and 3 of these calls; BEADS: 27, 10, 28, 1 and 12.
        int[] due = {2, 3, 13, 78, 3, 1, 1, 0, 5, 1, 18, 0, 18};
        for (int what = 0; what < due.length; what++) {
            int asked = what;
            check.dueUnchanged("ofFrame " + what, hall, due[what], h -> h.ofFrame(1, asked));
        }
        check.due("text then", hall.text(1), "099");
        check.due("the other frame's PUSHES", hall.ofFrame(0, 2), 0);
        hall.set(1, 0, 10);
        check.due("a VALUE of 10 is not TIDY", hall.ofFrame(1, 9), 0);
        check.due("100 modulo 11", hall.ofFrame(1, 11), 1);
    }

    private static void texts(Check check) {
        SorobanHall hall = new SorobanHall();
        hall.frame(1, 8);
        hall.frame(1, 8);
        hall.frame(2, 2);
        for (int rod = 0; rod < 8; rod++) {
            hall.set(0, rod, rod + 8);
            hall.set(1, rod, rod);
        }
        check.due("8 to F", hall.text(0), "FEDCBA98");
        check.due("0 to 7", hall.text(1), "76543210");
        check.due("none", hall.text(2), "00");
    }

    private static void halls(Check check) {
        SorobanHall hall = new SorobanHall();
        hall.frame(0, 2);
        check.due("no pairs", hall.many(4), 0);
        hall.frame(1, 3);
        hall.frame(2, 4);
        hall.frame(0, 8);
        check.due("six pairs", hall.many(4), 6);
        hall.add(0, 20);
        hall.set(1, 0, 5);
        hall.set(1, 1, 1);
        hall.set(1, 0, 15);
        hall.set(1, 1, 0);
        check.due("one pair of zeros", hall.many(4), 1);
        hall.set(1, 1, 1);
        hall.push(1, 0, false, -5);
        check.due("two pairs", hall.many(4), 2);
        check.due("20 by 1 and 10", hall.text(1), "01A");
        check.due("PUSHES of all", hall.many(2), hall.ofFrame(0, 2) + hall.ofFrame(1, 2));
        hall.times(0, 9);
        hall.shift(0, true);
        hall.set(3, 7, 3);
        hall.shift(3, true);
        check.due("SPILLED by all", hall.many(3), 1 + 8 + 3);
        check.due("FRAMES", hall.many(0), 4);
        hall.strike();
        check.due("REFUSED", hall.many(1), 1);
    }

    private static void wrongArguments(Check check) {
        SorobanHall hall = new SorobanHall();
        hall.frame(0, 2);
        for (int wrong : new int[] {-1, 1, 4, Integer.MIN_VALUE, Integer.MAX_VALUE}) {
            check.dueThrow("number of no frame", hall, INDEX, h -> h.number(wrong));
            check.dueThrow("ofRod of no frame", hall, INDEX, h -> h.ofRod(wrong, 0, 9));
            check.dueThrow("ofFrame of no frame", hall, INDEX, h -> h.ofFrame(wrong, 99));
            check.dueThrow("seconds of no frame", hall, INDEX, h -> h.seconds(wrong));
            check.dueThrow("text of no frame", hall, INDEX, h -> h.text(wrong));
        }
        for (int wrong : new int[] {-1, 2, 8, Integer.MIN_VALUE, Integer.MAX_VALUE}) {
            check.dueThrow("ofRod of no rod", hall, INDEX, h -> h.ofRod(0, wrong, 9));
        }
        for (int wrong : new int[] {-1, 13, Integer.MIN_VALUE, Integer.MAX_VALUE}) {
            check.dueThrow("ofRod of no what", hall, ARGUMENT, h -> h.ofRod(0, 0, wrong));
            check.dueThrow("ofFrame of no what", hall, ARGUMENT, h -> h.ofFrame(0, wrong));
            check.dueThrow("many of no what", hall, ARGUMENT, h -> h.many(wrong));
        }
        check.dueThrow("ofRod 6", hall, ARGUMENT, h -> h.ofRod(0, 0, 6));
        check.dueThrow("many 5", hall, ARGUMENT, h -> h.many(5));
    }
}
