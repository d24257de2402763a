/** The boundary cases of promises 3 to 14: the first and the last argument that is let, and each case told apart. */
public final class CallsEdgeTest {
    private static final Class<?> ARGUMENT = IllegalArgumentException.class;
    private static final int[] POWERS = {1, 10, 100, 1000, 10000, 100000, 1000000, 10000000, 100000000};

    private final Check check = new Check();

    public static void main(String[] args) {
        CallsEdgeTest test = new CallsEdgeTest();
        test.pushes();
        test.pushesBySet();
        test.numbersAdded();
        test.numbersOff();
        test.digitsMultiplied();
        test.digitsDivided();
        test.shiftsOfNothing();
        test.carriesByTidyAlone();
        test.shownDigits();
        test.shownOnItself();
        test.clearing();
        test.goingBack();
        test.greasing();
        test.check.end("CallsEdgeTest");
    }

    /** Promise 3: "VALUE then". */
    private void pushes() {
        SorobanHall hall = Halls.with(Halls.CHINESE, 8);
        check.due("1 above", hall.push(0, 7, true, 1), 5);
        check.due("1 below", hall.push(0, 7, false, 1), 6);
        check.due("1 more above", hall.push(0, 7, true, 1), 11);
        check.due("4 more below", hall.push(0, 7, false, 4), 15);
        check.due("2 fewer above", hall.push(0, 7, true, -2), 5);
        check.due("5 fewer below", hall.push(0, 7, false, -5), 0);
        check.due("at rod 0", hall.push(0, 0, false, 1), 1);
        check.due("PUSHES", hall.ofFrame(0, 2), 7);
        check.due("kept", hall.ofFrame(0, 8), 7);
    }

    /** Promise 4: "how many PUSHES that took": none, one and two. */
    private void pushesBySet() {
        SorobanHall hall = Halls.with(Halls.JAPANESE, 2);
        check.due("0 to 0", hall.set(0, 0, 0), 0);
        check.due("0 to 4", hall.set(0, 0, 4), 1);
        check.due("4 to 5", hall.set(0, 0, 5), 2);
        check.due("5 to 9", hall.set(0, 0, 9), 1);
        check.due("9 to 9", hall.set(0, 0, 9), 0);
        check.due("9 to 4", hall.set(0, 0, 4), 1);
        check.due("4 to 9", hall.set(0, 0, 9), 1);
        check.due("9 to 0", hall.set(0, 0, 0), 2);
        check.due("PUSHES ever", hall.ofFrame(0, 2), 8);
    }

    /** Promise 5: "if number is below 0, or has more digits than there are RODS". */
    private void numbersAdded() {
        for (int kind = 0; kind <= 2; kind++) {
            for (int rods = 2; rods <= 8; rods++) {
                int same = kind;
                int width = rods;
                int greatest = POWERS[rods] - 1;
                SorobanHall hall = Halls.with(kind, rods);
                check.due("0 is let", hall.add(0, 0), 0);
                check.due("kept by 0", hall.ofFrame(0, 8), 1);
                check.due("the least with all digits", hall.add(0, POWERS[rods - 1]), 1);
                check.due("the greatest", hall.add(0, greatest - POWERS[rods - 1]) > 0, true);
                check.due("NUMBER then", hall.number(0), (long) greatest);
                check.due("kept", hall.ofFrame(0, 8), 3);
                check.due("nothing SPILLED", hall.ofFrame(0, 6), 0);
                for (int number : new int[] {-1, greatest + 1, Integer.MIN_VALUE, Integer.MAX_VALUE}) {
                    check.dueRefused("add " + number + " on " + rods, () -> Halls.with(same, width), ARGUMENT,
                            h -> h.add(0, number));
                }
            }
        }
        SorobanHall japanese = Halls.with(Halls.JAPANESE, 8);
        check.due("PUSHES of 8 times 9", japanese.add(0, 99999999), 16);
        SorobanHall russian = Halls.with(Halls.RUSSIAN, 8);
        check.due("PUSHES of 8 times 9 below", russian.add(0, 99999999), 8);
    }

    /** Promise 6: the same for off(); "-2 ..." told apart from 0 PUSHES, which is let and kept. */
    private void numbersOff() {
        for (int kind = 0; kind <= 2; kind++) {
            for (int rods = 2; rods <= 8; rods++) {
                int same = kind;
                int width = rods;
                int greatest = POWERS[rods] - 1;
                SorobanHall hall = Halls.with(kind, rods);
                check.due("0 of 0", hall.off(0, 0), 0);
                check.due("kept by 0 of 0", hall.ofFrame(0, 8), 1);
                check.due("1 of 0", hall.off(0, 1), -2);
                check.due("the greatest of 0", hall.off(0, greatest), -2);
                check.due("kept still", hall.ofFrame(0, 8), 1);
                hall.add(0, greatest - 1);
                check.due("the greatest of 1 less", hall.off(0, greatest), -2);
                hall.add(0, 1);
                check.due("the greatest of itself", hall.off(0, greatest), (kind == 2 ? 1 : 2) * rods);
                check.due("NUMBER then", hall.number(0), 0L);
                check.due("kept at last", hall.ofFrame(0, 8), 4);
                for (int number : new int[] {-1, greatest + 1, Integer.MIN_VALUE, Integer.MAX_VALUE}) {
                    check.dueRefused("off " + number + " on " + rods, () -> Halls.with(same, width), ARGUMENT,
                            h -> h.off(0, number));
                }
            }
        }
        check.dueRefused("too many digits, though not TIDY", () -> Halls.of(Halls.CHINESE, "AA"), ARGUMENT,
                h -> h.off(0, 100));
        check.dueRefused("below 0, though not TIDY", () -> Halls.of(Halls.CHINESE, "AA"), ARGUMENT, h -> h.off(0, -1));
        check.dueNothingDone("not TIDY, and more than NUMBER", () -> Halls.of(Halls.RUSSIAN, "0A"), -2,
                h -> h.off(0, 99));
    }

    /** Promise 7: "if digit is not 0 to 9"; "how much was SPILLED by that", not ever. */
    private void digitsMultiplied() {
        for (int kind = 0; kind <= 2; kind++) {
            int same = kind;
            for (int digit = 0; digit <= 9; digit++) {
                SorobanHall hall = Halls.of(kind, "09");
                check.due("times " + digit, hall.times(0, digit), 0);
                check.due("NUMBER", hall.number(0), 9L * digit);
                check.due("kept", hall.ofFrame(0, 8), 3);
            }
            for (int digit : new int[] {-1, 10, Integer.MIN_VALUE, Integer.MAX_VALUE}) {
                check.dueRefused("times " + digit, () -> Halls.of(same, "12"), ARGUMENT, h -> h.times(0, digit));
            }
            SorobanHall hall = Halls.of(kind, "90");
            check.due("SPILLED by 90 times 9", hall.times(0, 9), 8);
            check.due("SPILLED by 10 times 9", hall.times(0, 9), 0);
            check.due("SPILLED by 90 times 3", hall.times(0, 3), 2);
            check.due("SPILLED by 70 times 0", hall.times(0, 0), 0);
            check.due("SPILLED ever", hall.ofFrame(0, 6), 10);
        }
    }

    /** Promise 8: "if digit is not 1 to 9"; "REST". */
    private void digitsDivided() {
        for (int kind = 0; kind <= 2; kind++) {
            int same = kind;
            for (int digit = 1; digit <= 9; digit++) {
                SorobanHall none = Halls.with(kind, 2);
                check.due("0 divided by " + digit, none.divide(0, digit), 0);
                check.due("kept of that", none.ofFrame(0, 8), 1);
                SorobanHall whole = Halls.with(kind, 2);
                whole.add(0, 9 * digit);
                check.due("REST of 9 times " + digit, whole.divide(0, digit), 0);
                check.due("NUMBER", whole.number(0), 9L);
                SorobanHall less = Halls.with(kind, 2);
                less.add(0, 9 * digit - 1);
                check.due("REST of 1 less than that", less.divide(0, digit), digit - 1);
                check.due("NUMBER of that", less.number(0), 8L);
            }
            for (int digit : new int[] {-1, 0, 10, Integer.MIN_VALUE, Integer.MAX_VALUE}) {
                check.dueRefused("divide by " + digit, () -> Halls.of(same, "12"), ARGUMENT, h -> h.divide(0, digit));
            }
        }
        SorobanHall most = Halls.of(Halls.CHINESE, "FF");
        check.due("15 and 15 by 1", most.divide(0, 1), 0);
        check.due("text of that", most.text(0), "FF");
        check.due("no PUSH by 1", most.ofFrame(0, 2), 4);
        SorobanHall high = Halls.of(Halls.CHINESE, "1F");
        check.due("10 and 15 by 2", high.divide(0, 2), 1);
        check.due("12 on a ROD", high.text(0), "0C");
        SorobanHall nine = Halls.of(Halls.CHINESE, "8F");
        check.due("80 and 15 by 9", nine.divide(0, 9), 5);
        check.due("10 on a ROD", nine.text(0), "0A");
    }

    /** Promise 9: nothing is SPILLED or gone; let also then, and kept. */
    private void shiftsOfNothing() {
        for (int kind = 0; kind <= 2; kind++) {
            SorobanHall hall = Halls.with(kind, 2);
            check.due("left of nothing", hall.shift(0, true), 0);
            check.due("right of nothing", hall.shift(0, false), 0);
            check.due("kept of both", hall.ofFrame(0, 8), 2);
            check.due("PUSHES of both", hall.ofFrame(0, 2), 0);
            hall.set(0, 1, 6);
            check.due("right of 60", hall.shift(0, false), 0);
            check.due("left of 06", hall.shift(0, true), 0);
            check.due("left of 60", hall.shift(0, true), 6);
            check.due("SPILLED", hall.ofFrame(0, 6), 6);
            hall.set(0, 0, 6);
            check.due("right of 06", hall.shift(0, false), 6);
            check.due("gone is not SPILLED", hall.ofFrame(0, 6), 6);
            check.due("all by then", hall.number(0), 0L);
        }
    }

    /** Promise 10: "how many CARRIES that were (those of BRINGING, too)", not those of other calls. */
    private void carriesByTidyAlone() {
        SorobanHall hall = Halls.of(Halls.RUSSIAN, "0999");
        hall.add(0, 1);
        check.due("CARRIES of add", hall.ofFrame(0, 4), 3);
        check.due("TIDY already", hall.tidy(0), 0);
        check.due("kept also then", hall.ofFrame(0, 8), 6);
        hall.set(0, 0, 10);
        check.due("one CARRY", hall.tidy(0), 1);
        check.due("text", hall.text(0), "1010");
        hall.set(0, 1, 9);
        hall.set(0, 0, 10);
        check.due("one of its own, one of BRINGING", hall.tidy(0), 2);
        check.due("text then", hall.text(0), "1100");
        check.due("CARRIES ever", hall.ofFrame(0, 4), 6);
    }

    /** Promise 11: "more digits than the other one has RODS"; "those ahead of its first digit to 0". */
    private void shownDigits() {
        for (int digits = 1; digits <= 8; digits++) {
            for (int rods = 2; rods <= 8; rods++) {
                int least = digits == 1 ? 0 : POWERS[digits - 1];
                for (int number : new int[] {least, POWERS[digits] - 1}) {
                    dueShown(number, digits, rods);
                }
            }
        }
        // 9 digits on 8 RODS: 15 * 11111111.
        SorobanHall hall = Halls.of(Halls.CHINESE, "A0000000");
        hall.frame(Halls.RUSSIAN, 8);
        check.due("100000000 on 8 rods", hall.show(0, 1), -2);
        check.due("100000000 on its own 8 rods", hall.show(0, 0), -2);
        check.due("text still", hall.text(0), "A0000000");
        hall.set(0, 7, 9);
        hall.set(0, 6, 9);
        hall.set(0, 5, 15);
        check.due("100500000 on 8 rods", hall.show(0, 1), -2);
        hall.set(0, 5, 9);
        hall.set(0, 4, 9);
        check.due("99990000 on 8 rods", hall.show(0, 1), 4);
        check.due("text then", hall.text(1), "99990000");
    }

    private void dueShown(int number, int digits, int rods) {
        SorobanHall hall = new SorobanHall();
        hall.frame(Halls.JAPANESE, 8);
        hall.frame(Halls.RUSSIAN, rods);
        hall.add(0, number);
        for (int rod = 0; rod < rods; rod++) {
            hall.set(1, rod, 10);
        }
        int pushes = hall.ofFrame(1, 2);
        String what = number + " on " + rods + " rods";
        String before = hall.text(1);
        check.due("show " + what, hall.show(0, 1), digits <= rods ? rods : -2);
        check.due("text by " + what, hall.text(1),
                digits <= rods ? hall.text(0).substring(8 - rods) : before);
        check.due("kept by " + what, hall.ofFrame(1, 8), digits <= rods ? rods + 1 : rods);
        check.due("PUSHES by " + what, hall.ofFrame(1, 2) - pushes, digits <= rods ? rods : 0);
        check.due("shown by " + what, hall.number(0), (long) number);
        check.due("kept of the shown one by " + what, hall.ofFrame(0, 8), 1);
    }

    /** "the NUMBER of a FRAME ... (as it was ahead of that)": one and other are the same FRAME. */
    private void shownOnItself() {
        SorobanHall hall = Halls.of(Halls.CHINESE, "0FFF");
        check.due("1665 on itself", hall.show(0, 0), 1 + 2 + 2 + 1);
        check.due("text", hall.text(0), "1665");
        check.due("kept", hall.ofFrame(0, 8), 5);
        check.due("CARRIES", hall.ofFrame(0, 4), 0);
        check.due("again", hall.show(0, 0), 0);
        check.due("kept again", hall.ofFrame(0, 8), 6);
        hall.back(0);
        hall.back(0);
        check.due("text back", hall.text(0), "0FFF");
    }

    /** Promise 12: none, and all. */
    private void clearing() {
        for (int kind = 0; kind <= 2; kind++) {
            SorobanHall hall = Halls.with(kind, 8);
            check.due("clear of nothing", hall.clear(0), 0);
            check.due("kept of it", hall.ofFrame(0, 8), 1);
            for (int rod = 0; rod < 8; rod++) {
                hall.set(0, rod, Halls.MOST[kind]);
            }
            double then = hall.seconds(0);
            int decks = kind == Halls.RUSSIAN ? 1 : 2;
            int beads = Halls.ABOVE[kind] + Halls.BELOW[kind];
            check.due("clear of all", hall.clear(0), 8 * decks);
            check.due("SECONDS of that, from the left", hall.seconds(0) - then,
                    8 * (0.25 * decks + 0.0625 * beads) + 7 * 0.125);
            check.due("HAND", hall.ofFrame(0, 7), 0);
            check.due("NUMBER", hall.number(0), 0L);
            check.due("beads that count", hall.ofFrame(0, 12), 0);
        }
    }

    /** Promise 13: "how many are kept still": from 11 to 0. */
    private void goingBack() {
        SorobanHall hall = Halls.with(Halls.JAPANESE, 2);
        for (int kept = 1; kept <= 14; kept++) {
            hall.add(0, 1);
        }
        for (int still = 11; still >= 0; still--) {
            check.due("kept still", hall.back(0), still);
            check.due("NUMBER", hall.number(0), 2L + still);
        }
        check.due("none", Check.outcome(hall, h -> h.back(0)), "throws.IllegalStateException");
        hall.add(0, 5);
        check.due("one again", hall.ofFrame(0, 8), 1);
        check.due("back of one", hall.back(0), 0);
        check.due("NUMBER of that", hall.number(0), 2L);
    }

    /** Promise 14: "WEAR of both DECKS before, together", at the first and the last ROD. */
    private void greasing() {
        for (int rods = 2; rods <= 8; rods++) {
            SorobanHall hall = Halls.with(Halls.CHINESE, rods);
            hall.set(0, 0, 15);
            hall.set(0, rods - 1, 4);
            check.due("WEAR of rod 0", hall.grease(0, 0), 7);
            check.due("WEAR of ABOVE and BELOW then", hall.ofRod(0, 0, 3) + hall.ofRod(0, 0, 4), 0);
            check.due("WEAR of the last still", hall.ofRod(0, rods - 1, 4), 4);
            check.due("WEAR of the last", hall.grease(0, rods - 1), 4);
            check.due("WEAR of the last then", hall.ofRod(0, rods - 1, 4), 0);
            check.due("WEAR of the last again", hall.grease(0, rods - 1), 0);
            check.due("SECONDS", hall.seconds(0),
                    0.25 + 2 * 0.0625 + 0.25 + 5 * 0.0625 + (rods - 1) * 0.125 + 0.25 + 4 * 0.0625 + 6.0);
        }
    }
}
