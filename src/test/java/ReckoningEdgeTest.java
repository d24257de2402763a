/** The boundary cases of "Terms", part 3 (Reckoning), on both sides of each. */
public final class ReckoningEdgeTest {
    private static final int[] NUMBERS = {
        0, 1, 2, 9, 10, 11, 19, 90, 91, 99, 100, 101, 109, 110, 190, 199, 200, 500, 555, 899, 900, 901, 909, 990, 998,
        999, 1000, 1001, 1010, 1099, 1100, 1999, 2000, 5000, 9000, 9009, 9900, 9990, 9998, 9999,
    };

    private final Check check = new Check();

    public static void main(String[] args) {
        ReckoningEdgeTest test = new ReckoningEdgeTest();
        test.bringUpToNine();
        test.bringBeyondTheLastRod();
        test.carryOnAndOn();
        test.zerosAreNotBrought();
        test.addFromTheLeft();
        test.offOnlyIfTidy();
        test.offUpToTheNumber();
        test.loanOfTheNearest();
        test.multiplyEachValue();
        test.multiplyBeyondTheLastRod();
        test.multiplyFromTheLeft();
        test.divideEachNumber();
        test.shiftLeft();
        test.shiftRight();
        test.tidyEachNumber();
        test.tidyOfLongChains();
        test.wayOfTheHand();
        test.check.end("ReckoningEdgeTest");
    }

    private static String sign(int value) {
        return "0123456789ABCDEF".substring(value, value + 1);
    }

    private static int power(int places) {
        int power = 1;
        for (int k = 0; k < places; k++) {
            power *= 10;
        }
        return power;
    }

    private void dueCounts(String what, SorobanHall hall, int carries, int loans, int spilled) {
        check.due("CARRIES of " + what, hall.ofFrame(0, 4), carries);
        check.due("LOANS of " + what, hall.ofFrame(0, 5), loans);
        check.due("SPILLED of " + what, hall.ofFrame(0, 6), spilled);
    }

    /** "together 9 or less: it is SET to that; with more: ... 10 less than that, and 1 is BROUGHT". */
    private void bringUpToNine() {
        for (int kind = 0; kind <= 2; kind++) {
            for (int value = 0; value <= Halls.MOST[kind]; value++) {
                for (int digit = 1; digit <= 9; digit++) {
                    SorobanHall hall = Halls.of(kind, "00" + sign(value));
                    hall.add(0, digit);
                    int sum = value + digit;
                    String what = digit + " to " + value + " of kind " + kind;
                    check.due("add " + what, hall.text(0), sum <= 9 ? "00" + sign(sum) : "01" + sign(sum - 10));
                    dueCounts(what, hall, sum <= 9 ? 0 : 1, 0, 0);
                }
            }
        }
    }

    /** "at a ROD that there is not ... it is SPILLED"; "(a CARRY, counted, also if it is SPILLED)". */
    private void bringBeyondTheLastRod() {
        for (int kind = 0; kind <= 2; kind++) {
            for (int rods = 2; rods <= 8; rods++) {
                for (int value = 0; value <= Halls.MOST[kind]; value++) {
                    for (int digit = 1; digit <= 9; digit++) {
                        SorobanHall hall = Halls.with(kind, rods);
                        hall.set(0, rods - 1, value);
                        hall.add(0, digit * power(rods - 1));
                        int sum = value + digit;
                        int over = sum <= 9 ? 0 : 1;
                        String what = digit + " to " + value + " at the last of " + rods + " rods";
                        check.due("VALUE of " + what, hall.ofRod(0, rods - 1, 0), sum - 10 * over);
                        check.due("all by " + what, hall.ofFrame(0, 10), sum - 10 * over);
                        dueCounts(what, hall, over, 0, over);
                        check.due("SPILLED by all, " + what, hall.many(3), over);
                    }
                }
            }
        }
    }

    /** A CARRY that is BROUGHT to 8 ends there, one to 9 goes on, to the last ROD and beyond. */
    private void carryOnAndOn() {
        for (int kind = 0; kind <= 2; kind++) {
            for (int nines = 1; nines <= 8; nines++) {
                SorobanHall hall = Halls.with(kind, 8);
                hall.add(0, power(nines) - 1);
                hall.add(0, 1);
                String what = "1 to " + nines + " nines";
                check.due("NUMBER of " + what, hall.number(0), nines == 8 ? 0L : (long) power(nines));
                dueCounts(what, hall, nines, 0, nines == 8 ? 1 : 0);
                check.due("HAND of " + what, hall.ofFrame(0, 7), Math.min(nines, 7));
            }
            SorobanHall ends = Halls.of(kind, "989");
            ends.add(0, 1);
            check.due("1 to 989", ends.text(0), "990");
            dueCounts("1 to 989", ends, 1, 0, 0);
        }
        SorobanHall tens = Halls.of(Halls.RUSSIAN, "AAA");
        tens.add(0, 1);
        check.due("1 to AAA", tens.text(0), "111");
        dueCounts("1 to AAA", tens, 3, 0, 1);
        SorobanHall most = Halls.of(Halls.CHINESE, "FFF");
        most.add(0, 1);
        check.due("1 to FFF", most.text(0), "666");
        dueCounts("1 to FFF", most, 3, 0, 1);
    }

    /** "0 does nothing"; "(of those that are not 0)": also at a VALUE above 9, and at a ROD that there is not. */
    private void zerosAreNotBrought() {
        for (int kind = 1; kind <= 2; kind++) {
            for (int value = 10; value <= Halls.MOST[kind]; value++) {
                String text = sign(value) + "0" + sign(value);
                SorobanHall none = Halls.of(kind, text);
                check.due("PUSHES of 0", none.add(0, 0), 0);
                check.due("0 to " + text, none.text(0), text);
                dueCounts("0 to " + text, none, 0, 0, 0);
                SorobanHall middle = Halls.of(kind, text);
                check.due("PUSHES of 10", middle.add(0, 10), 1);
                check.due("10 to " + text, middle.text(0), sign(value) + "1" + sign(value));
                dueCounts("10 to " + text, middle, 0, 0, 0);
                SorobanHall ones = Halls.of(kind, text);
                ones.add(0, 1);
                check.due("1 to " + text, ones.text(0), sign(value) + "1" + sign(value - 9));
                dueCounts("1 to " + text, ones, 1, 0, 0);
            }
        }
        SorobanHall untouched = Halls.of(Halls.CHINESE, "0F");
        untouched.times(0, 1);
        check.due("15 times 1: its ones, then its tens", untouched.text(0), "15");
        dueCounts("15 times 1, no CARRY", untouched, 0, 0, 0);
    }

    /** "digit by digit from the left": of 99 and 11 the tens are BROUGHT first, so that the ones' CARRY comes to 0. */
    private void addFromTheLeft() {
        SorobanHall hall = Halls.of(Halls.JAPANESE, "099");
        double then = hall.seconds(0);
        check.due("PUSHES of 11 to 099", hall.add(0, 11), 2 + 1 + 2 + 1);
        check.due("11 to 099", hall.text(0), "110");
        // 9 to 0 at rod 1 (2 PUSHES, 5 beads), rod 2, back to rod 0 (2, 5), rod 1: the way 1, 1, 2, 1.
        check.due("SECONDS of that", hall.seconds(0) - then, 6 * 0.25 + 12 * 0.0625 + 5 * 0.125);
        check.due("HAND", hall.ofFrame(0, 7), 1);
    }

    /** "(only if the FRAME is TIDY ...)": 9 is, 10 is not, at whichever ROD. */
    private void offOnlyIfTidy() {
        for (int kind = 1; kind <= 2; kind++) {
            for (int rod = 0; rod < 3; rod++) {
                for (int value = 9; value <= Halls.MOST[kind]; value++) {
                    for (int number : new int[] {0, 1, 9}) {
                        int same = kind;
                        int at = rod;
                        int of = value;
                        Halls.Build build = () -> {
                            SorobanHall made = Halls.with(same, 3);
                            made.set(0, at, of);
                            return made;
                        };
                        if (value > 9) {
                            check.dueNothingDone("off " + number + " of " + value + " at rod " + rod, build, -2,
                                    h -> h.off(0, number));
                            continue;
                        }
                        SorobanHall hall = build.hall();
                        hall.off(0, number);
                        check.due("9 less " + number, hall.number(0), 9L * power(rod) - number);
                        check.due("kept", hall.ofFrame(0, 8), 2);
                    }
                }
            }
        }
    }

    /** "(... and it is not more than NUMBER)"; "if the digit is not more than VALUE"; a LOAN otherwise. */
    private void offUpToTheNumber() {
        for (int kind = 0; kind <= 2; kind++) {
            for (int from : NUMBERS) {
                for (int number : NUMBERS) {
                    dueOff(kind, from, number);
                }
                dueOff(kind, from, Math.min(from + 1, 9999));
                dueOff(kind, from, Math.max(from - 1, 0));
            }
        }
    }

    private void dueOff(int kind, int from, int number) {
        SorobanHall hall = Halls.with(kind, 4);
        hall.add(0, from);
        int pushes = hall.ofFrame(0, 2);
        String what = from + " less " + number + " of kind " + kind;
        if (number > from) {
            check.due("off, " + what, hall.off(0, number), -2);
            check.due("NUMBER, " + what, hall.number(0), (long) from);
            check.due("kept, " + what, hall.ofFrame(0, 8), 1);
            check.due("PUSHES, " + what, hall.ofFrame(0, 2), pushes);
            dueCounts(what, hall, 0, 0, 0);
            return;
        }
        int took = hall.off(0, number);
        check.due("off, " + what, took, hall.ofFrame(0, 2) - pushes);
        check.due("NUMBER, " + what, hall.number(0), (long) (from - number));
        check.due("TIDY, " + what, hall.ofFrame(0, 9), 1);
        check.due("kept, " + what, hall.ofFrame(0, 8), 2);
        dueCounts(what, hall, 0, loans(from, number), 0);
    }

    /** Digit by digit from the left no ROD is changed ahead of its own digit, so these are told by the digits alone. */
    private static int loans(int from, int number) {
        int loans = 0;
        for (int place = 0; place < 4; place++) {
            if (number / power(place) % 10 > from / power(place) % 10) {
                loans++;
            }
        }
        return loans;
    }

    /** "the nearest ROD on its left whose VALUE is above 0 is SET to 1 less, each one between to 9". */
    private void loanOfTheNearest() {
        for (int far = 1; far <= 7; far++) {
            for (int lender = 1; lender <= 9; lender++) {
                for (int value = 0; value <= 8; value++) {
                    dueLoan(far, lender, value, value + 1);
                    dueLoan(far, lender, value, 9);
                }
            }
        }
    }

    private void dueLoan(int far, int lender, int value, int digit) {
        SorobanHall hall = Halls.with(Halls.RUSSIAN, 8);
        hall.set(0, 7, 5);
        hall.set(0, far, lender);
        hall.set(0, 0, value);
        int hand = hall.ofFrame(0, 7);
        double then = hall.seconds(0);
        String what = value + " less " + digit + " by a LOAN of " + lender + " at rod " + far;
        check.due("PUSHES, " + what, hall.off(0, digit), far + 1);
        check.due("the lender's VALUE, " + what, hall.ofRod(0, far, 0), lender - 1);
        for (int rod = 1; rod < far; rod++) {
            check.due("VALUE between, " + what, hall.ofRod(0, rod, 0), 9);
        }
        check.due("its own VALUE, " + what, hall.ofRod(0, 0, 0), value + 10 - digit);
        check.due("the farther one, " + what, hall.ofRod(0, 7, 0), far == 7 ? lender - 1 : 5);
        dueCounts(what, hall, 0, 1, 0);
        // To the lender, then back from the left on: 1 bead, 9 for each between, 10 less the digit at the end.
        check.due("SECONDS, " + what, hall.seconds(0) - then,
                (far - hand + far) * 0.125 + (far + 1) * 0.25 + (1 + 9 * (far - 1) + 10 - digit) * 0.0625);
        check.due("HAND, " + what, hall.ofFrame(0, 7), 0);
    }

    /** "VALUE times the digit is BROUGHT: its ones ..., its tens ..., its hundreds ...": with RODS for all of these. */
    private void multiplyEachValue() {
        for (int kind = 0; kind <= 2; kind++) {
            for (int value = 0; value <= Halls.MOST[kind]; value++) {
                for (int digit = 0; digit <= 9; digit++) {
                    SorobanHall hall = Halls.of(kind, "000" + sign(value));
                    String what = value + " times " + digit + " of kind " + kind;
                    check.due("SPILLED by " + what, hall.times(0, digit), 0);
                    check.due("NUMBER of " + what, hall.number(0), (long) (value * digit));
                    check.due("TIDY by " + what, hall.ofFrame(0, 9), 1);
                    dueCounts(what, hall, 0, 0, 0);
                }
            }
        }
    }

    /** The tens of the last ROD are SPILLED, and the hundreds of it and of the last but one. */
    private void multiplyBeyondTheLastRod() {
        for (int kind = 0; kind <= 2; kind++) {
            for (int value = 0; value <= Halls.MOST[kind]; value++) {
                for (int digit = 0; digit <= 9; digit++) {
                    int product = value * digit;
                    String what = value + " times " + digit + " of kind " + kind;
                    SorobanHall last = Halls.of(kind, sign(value) + "00");
                    int spilled = product / 10 % 10 + product / 100;
                    check.due("SPILLED at the last, " + what, last.times(0, digit), spilled);
                    check.due("text at the last, " + what, last.text(0), sign(product % 10) + "00");
                    dueCounts("at the last, " + what, last, 0, 0, spilled);
                    SorobanHall next = Halls.of(kind, "0" + sign(value) + "0");
                    check.due("SPILLED at the next, " + what, next.times(0, digit), product / 100);
                    check.due("text at the next, " + what, next.text(0),
                            sign(product / 10 % 10) + sign(product % 10) + "0");
                    dueCounts("at the next, " + what, next, 0, 0, product / 100);
                }
            }
        }
        SorobanHall carried = Halls.of(Halls.JAPANESE, "19");
        // 1 * 6 stays 6; 9 * 6 = 54: 4, and 5 to 6 leaves 1, its CARRY is SPILLED.
        check.due("a CARRY is SPILLED too", carried.times(0, 6), 1);
        check.due("text of that", carried.text(0), "14");
        dueCounts("19 times 6", carried, 1, 0, 1);
    }

    /** "ROD by ROD from the left": what is BROUGHT comes to RODS that are multiplied already. */
    private void multiplyFromTheLeft() {
        for (int kind = 0; kind <= 2; kind++) {
            for (int number : NUMBERS) {
                for (int digit = 0; digit <= 9; digit++) {
                    SorobanHall hall = Halls.with(kind, 5);
                    hall.add(0, number);
                    check.due("SPILLED by " + number + " times " + digit, hall.times(0, digit), 0);
                    check.due("NUMBER of " + number + " times " + digit, hall.number(0), (long) number * digit);
                }
            }
        }
        SorobanHall hall = Halls.of(Halls.JAPANESE, "11");
        int pushes = hall.ofFrame(0, 2);
        hall.times(0, 1);
        check.due("each ROD is SET to 0 first", hall.ofFrame(0, 2) - pushes, 4);
        check.due("the HAND ends on the right", hall.ofFrame(0, 7), 0);
    }

    /** "REST is 0; ...: 10 * REST and VALUE together are divided ...; REST is what is left", from 0 to digit less 1. */
    private void divideEachNumber() {
        for (int kind = 0; kind <= 2; kind++) {
            for (int left = 0; left <= Halls.MOST[kind]; left++) {
                for (int right = 0; right <= Halls.MOST[kind]; right++) {
                    for (int digit = 1; digit <= 9; digit++) {
                        SorobanHall hall = Halls.of(kind, sign(left) + sign(right));
                        String what = left + ", " + right + " divided by " + digit;
                        int together = 10 * (left % digit) + right;
                        check.due("REST of " + what, hall.divide(0, digit), together % digit);
                        check.due("text of " + what, hall.text(0), sign(left / digit) + sign(together / digit));
                        dueCounts(what, hall, 0, 0, 0);
                    }
                }
            }
        }
    }

    /** "what the last ROD on the left had is SPILLED; the ROD 0 is SET to 0". */
    private void shiftLeft() {
        for (int kind = 0; kind <= 2; kind++) {
            for (int value = 0; value <= Halls.MOST[kind]; value++) {
                SorobanHall hall = Halls.of(kind, sign(value) + "4" + sign(value));
                check.due("shift left of " + value, hall.shift(0, true), value);
                check.due("text then", hall.text(0), "4" + sign(value) + "0");
                dueCounts("shift left of " + value, hall, 0, 0, value);
                check.due("shift left again", hall.shift(0, true), 4);
                check.due("text then", hall.text(0), sign(value) + "00");
                dueCounts("shift left again", hall, 0, 0, value + 4);
            }
            for (int rods = 2; rods <= 8; rods++) {
                SorobanHall hall = Halls.with(kind, rods);
                hall.set(0, 0, 7);
                for (int k = 1; k < rods; k++) {
                    check.due("nothing SPILLED yet", hall.shift(0, true), 0);
                    check.due("at rod " + k, hall.number(0), 7L * power(k));
                    check.due("HAND", hall.ofFrame(0, 7), k - 1);
                }
                check.due("SPILLED at last", hall.shift(0, true), 7);
                check.due("HAND at last", hall.ofFrame(0, 7), rods - 1);
                check.due("NUMBER at last", hall.number(0), 0L);
                dueCounts("all of that", hall, 0, 0, 7);
            }
        }
    }

    /** "the last one to 0; what the ROD 0 had is gone". */
    private void shiftRight() {
        for (int kind = 0; kind <= 2; kind++) {
            for (int value = 0; value <= Halls.MOST[kind]; value++) {
                SorobanHall hall = Halls.of(kind, sign(value) + "4" + sign(value));
                check.due("shift right of " + value, hall.shift(0, false), value);
                check.due("text then", hall.text(0), "0" + sign(value) + "4");
                check.due("shift right again", hall.shift(0, false), 4);
                check.due("text then", hall.text(0), "00" + sign(value));
                dueCounts("shift right of " + value, hall, 0, 0, 0);
                check.due("SPILLED by all", hall.many(3), 0);
            }
            for (int rods = 2; rods <= 8; rods++) {
                SorobanHall hall = Halls.with(kind, rods);
                hall.set(0, rods - 1, 7);
                for (int k = rods - 2; k >= 0; k--) {
                    check.due("nothing gone yet", hall.shift(0, false), 0);
                    check.due("at rod " + k, hall.number(0), 7L * power(k));
                    check.due("HAND", hall.ofFrame(0, 7), k + 1);
                }
                check.due("gone at last", hall.shift(0, false), 7);
                check.due("NUMBER at last", hall.number(0), 0L);
                dueCounts("all of that", hall, 0, 0, 0);
            }
        }
    }

    /** "with VALUE above 9 it is SET to 10 less, and 1 is BROUGHT to the next one on the left". */
    private void tidyEachNumber() {
        for (int kind = 0; kind <= 2; kind++) {
            for (int left = 0; left <= Halls.MOST[kind]; left++) {
                for (int right = 0; right <= Halls.MOST[kind]; right++) {
                    SorobanHall hall = Halls.of(kind, sign(left) + sign(right));
                    int fromRight = right > 9 ? 1 : 0;
                    int fromLeft = left + fromRight > 9 ? 1 : 0;
                    String what = "tidy of " + left + ", " + right;
                    int pushes = hall.ofFrame(0, 2);
                    check.due(what, hall.tidy(0), fromRight + fromLeft);
                    check.due("NUMBER by " + what, hall.number(0), (10L * left + right) % 100);
                    check.due("TIDY by " + what, hall.ofFrame(0, 9), 1);
                    check.due("no PUSH by " + what, hall.ofFrame(0, 2) == pushes, fromRight + fromLeft == 0);
                    dueCounts(what, hall, fromRight + fromLeft, 0, fromLeft);
                }
            }
        }
    }

    /** "ROD by ROD from the right": CARRIES that go on through VALUES of 9, and those of RODS above 9. */
    private void tidyOfLongChains() {
        for (int kind = 1; kind <= 2; kind++) {
            SorobanHall nines = Halls.of(kind, "9999999A");
            check.due("CARRIES of 9999999A", nines.tidy(0), 8);
            check.due("text of 9999999A", nines.text(0), "00000000");
            dueCounts("9999999A", nines, 8, 0, 1);
            SorobanHall eight = Halls.of(kind, "9998999A");
            check.due("CARRIES of 9998999A", eight.tidy(0), 4);
            check.due("text of 9998999A", eight.text(0), "99990000");
            dueCounts("9998999A", eight, 4, 0, 0);
            SorobanHall tens = Halls.of(kind, "AAAAAAAA");
            check.due("CARRIES of AAAAAAAA", tens.tidy(0), 8);
            check.due("text of AAAAAAAA", tens.text(0), "11111110");
            dueCounts("AAAAAAAA", tens, 8, 0, 1);
        }
        SorobanHall most = Halls.of(Halls.CHINESE, "FFFFFFFF");
        check.due("CARRIES of FFFFFFFF", most.tidy(0), 8);
        check.due("text of FFFFFFFF", most.text(0), "66666665");
        dueCounts("FFFFFFFF", most, 8, 0, 1);
    }

    /** The order in which the RODS are SET, told by the HAND's way: each call on the same frame, the HAND at rod 0. */
    private void wayOfTheHand() {
        dueWay("add 105", h -> h.add(0, 105), 4, "0110", 4, 24, 2 + 1 + 3 + 1);
        dueWay("shift left", h -> h.shift(0, true), 9, "A050", 4, 21, 3 + 1 + 1 + 1);
        dueWay("shift right", h -> h.shift(0, false), 5, "09A0", 4, 25, 1 + 1 + 1);
        // 9 * 3: 7, and 2 SPILLED; 10 * 3: 0, and 3 to 7 leaves 0, its CARRY SPILLED; 5 * 3: 5, and 1.
        dueWay("times 3", h -> h.times(0, 3), 3, "0015", 7, 9 + 7 + 10 + 7 + 5 + 5 + 1, 3 + 0 + 1 + 1 + 3 + 0 + 1);
        dueWay("divide by 3", h -> h.divide(0, 3), 0, "3335", 3, 16, 3 + 1 + 1);
        dueWay("tidy", h -> h.tidy(0), 2, "0005", 2, 19, 2 + 1);
        dueWay("show", h -> h.show(1, 0), 4, "0123", 4, 22, 3 + 1 + 1 + 1);
        dueWay("clear", h -> h.clear(0), 3, "0000", 3, 24, 3 + 1 + 2);
    }

    private void dueWay(String what, Check.Call call, int answer, String text, int pushes, int beads, int steps) {
        SorobanHall hall = Halls.of(Halls.RUSSIAN, "9A05");
        hall.frame(Halls.CHINESE, 3);
        hall.add(1, 123);
        check.due("HAND ahead of " + what, hall.ofFrame(0, 7), 0);
        double then = hall.seconds(0);
        int pushed = hall.ofFrame(0, 2);
        int moved = hall.ofFrame(0, 3);
        check.due(what + " of 9A05", call.on(hall), answer);
        check.due("text by " + what, hall.text(0), text);
        check.due("PUSHES by " + what, hall.ofFrame(0, 2) - pushed, pushes);
        check.due("BEADS by " + what, hall.ofFrame(0, 3) - moved, beads);
        check.due("SECONDS by " + what, hall.seconds(0) - then, steps * 0.125 + pushes * 0.25 + beads * 0.0625);
    }
}
