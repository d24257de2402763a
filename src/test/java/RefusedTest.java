/**
 * "A method that throws an exception changes nothing. If several exceptions apply, the one that is named first is
 * thrown." Each "Throws" row of each method, and each -2, in a hall in which there is much that could change; after
 * each of these calls all is asked that can be, and all is brought back that is kept.
 */
public final class RefusedTest {
    private static final Class<?> INDEX = IndexOutOfBoundsException.class;
    private static final Class<?> ARGUMENT = IllegalArgumentException.class;
    private static final Class<?> STATE = IllegalStateException.class;
    private static final int MIN = Integer.MIN_VALUE;
    private static final int MAX = Integer.MAX_VALUE;
    private static final int[] RODS = {4, 8, 2, 3};
    private static final int[] KINDS = {0, 1, 2, 1};

    private final Check check = new Check();

    public static void main(String[] args) {
        RefusedTest test = new RefusedTest();
        test.theHallItself();
        test.noSuchFrame("of an empty hall", SorobanHall::new, new int[] {0, 1, 4, -1, MIN, MAX});
        test.noSuchFrame("of two frames", RefusedTest::two, new int[] {2, 3, 4, -1, MIN, MAX});
        test.noSuchFrame("of four frames", RefusedTest::busy, new int[] {4, 5, -1, MIN, MAX});
        test.noSuchOther();
        test.noSuchRod();
        test.noSuchFrameToMake();
        test.noSuchBeads();
        test.noSuchValue();
        test.noSuchNumber();
        test.noSuchDigit();
        test.noSuchWhat();
        test.noneKept();
        test.offNotDone();
        test.showNotDone();
        test.askingChangesNothing();
        test.check.end("RefusedTest");
    }

    /** Four frames with all that is counted, WORN DECKS, the HAND away, and none, some and 12 that are kept. */
    private static SorobanHall busy() {
        SorobanHall hall = new SorobanHall();
        for (int frame = 0; frame < 4; frame++) {
            hall.frame(KINDS[frame], RODS[frame]);
        }
        hall.add(0, 9876);
        hall.add(0, 999);
        hall.off(0, 88);
        hall.set(0, 3, 9);
        for (int rod = 0; rod < 8; rod++) {
            hall.set(1, rod, rod + 8);
        }
        hall.times(1, 3);
        hall.tidy(1);
        hall.shift(1, true);
        hall.off(1, 12345678);
        hall.divide(1, 7);
        hall.set(1, 5, 15);
        for (int k = 0; k < 4; k++) {
            hall.push(2, 0, false, k % 2 == 0 ? 10 : -10);
        }
        for (int k = 0; k < 4; k++) {
            hall.back(2);
        }
        hall.set(3, 0, 15);
        hall.set(3, 1, 10);
        hall.strike();
        return hall;
    }

    private static SorobanHall two() {
        SorobanHall hall = new SorobanHall();
        hall.frame(1, 2);
        hall.frame(0, 8);
        hall.add(0, 78);
        hall.add(1, 87654321);
        return hall;
    }

    /** What the other tests here need of that hall. */
    private void theHallItself() {
        SorobanHall hall = busy();
        check.due("texts", hall.text(0) + " " + hall.text(2) + " " + hall.text(3), "9787 00 0AF");
        int[] kept = {4, 12, 0, 2};
        for (int frame = 0; frame < 4; frame++) {
            check.due("kept of " + frame, hall.ofFrame(frame, 8), kept[frame]);
        }
        check.due("WORN", hall.ofRod(2, 0, 5), 1);
        check.due("CARRIES, LOANS and SPILLED", hall.ofFrame(0, 4) > 0 && hall.ofFrame(0, 5) > 0
                && hall.ofFrame(0, 6) > 0, true);
        check.due("REFUSED", hall.many(1), 1);
    }

    private void refused(String what, Halls.Build build, Class<?> want, Check.Call call) {
        check.dueRefused(what, build, want, call);
    }

    /** "if there is no such FRAME", by each method; ahead of all that is wrong besides. */
    private void noSuchFrame(String where, Halls.Build build, int[] frames) {
        for (int f : frames) {
            String what = " of frame " + f + " " + where;
            refused("push" + what, build, INDEX, h -> h.push(f, 0, true, 1));
            refused("push 0" + what, build, INDEX, h -> h.push(f, -1, true, 0));
            refused("push too many" + what, build, INDEX, h -> h.push(f, 0, false, MAX));
            refused("set" + what, build, INDEX, h -> h.set(f, 0, 1));
            refused("set too much" + what, build, INDEX, h -> h.set(f, 9, 16));
            refused("add" + what, build, INDEX, h -> h.add(f, 1));
            refused("add below 0" + what, build, INDEX, h -> h.add(f, -1));
            refused("off" + what, build, INDEX, h -> h.off(f, 0));
            refused("off too much" + what, build, INDEX, h -> h.off(f, MAX));
            refused("times" + what, build, INDEX, h -> h.times(f, 1));
            refused("times 10" + what, build, INDEX, h -> h.times(f, 10));
            refused("divide" + what, build, INDEX, h -> h.divide(f, 1));
            refused("divide by 0" + what, build, INDEX, h -> h.divide(f, 0));
            refused("shift left" + what, build, INDEX, h -> h.shift(f, true));
            refused("shift right" + what, build, INDEX, h -> h.shift(f, false));
            refused("tidy" + what, build, INDEX, h -> h.tidy(f));
            refused("show on itself" + what, build, INDEX, h -> h.show(f, f));
            refused("clear" + what, build, INDEX, h -> h.clear(f));
            refused("back" + what, build, INDEX, h -> h.back(f));
            refused("grease" + what, build, INDEX, h -> h.grease(f, 0));
            refused("grease no rod" + what, build, INDEX, h -> h.grease(f, 8));
            askedOfNoSuchFrame(what, build, f);
        }
    }

    private void askedOfNoSuchFrame(String what, Halls.Build build, int f) {
        refused("number" + what, build, INDEX, h -> h.number(f));
        refused("ofRod" + what, build, INDEX, h -> h.ofRod(f, 0, 0));
        refused("ofRod 6" + what, build, INDEX, h -> h.ofRod(f, 0, 6));
        refused("ofFrame" + what, build, INDEX, h -> h.ofFrame(f, 0));
        refused("ofFrame 13" + what, build, INDEX, h -> h.ofFrame(f, 13));
        refused("seconds" + what, build, INDEX, h -> h.seconds(f));
        refused("text" + what, build, INDEX, h -> h.text(f));
        refused("showings" + what, build, INDEX, h -> h.showings(f));
        refused("fewest" + what, build, INDEX, h -> h.fewest(f));
        refused("would" + what, build, INDEX, h -> h.would(f, 1, 0));
        refused("would 4" + what, build, INDEX, h -> h.would(f, -1, 4));
        refused("wouldTake" + what, build, INDEX, h -> h.wouldTake(f, 1));
        refused("wouldTake below 0" + what, build, INDEX, h -> h.wouldTake(f, -1));
        refused("quicker" + what, build, INDEX, h -> h.quicker(f, f, 1));
        refused("quicker below 0" + what, build, INDEX, h -> h.quicker(f, f, -1));
        refused("hardest" + what, build, INDEX, h -> h.hardest(f, 0));
        refused("hardest of no rod" + what, build, INDEX, h -> h.hardest(f, -1));
    }

    /** "if there is no such FRAME, of both": the one, then the other. */
    private void noSuchOther() {
        for (int f : new int[] {4, 5, -1, MIN, MAX}) {
            String what = " " + f;
            refused("show of" + what, RefusedTest::busy, INDEX, h -> h.show(f, 0));
            refused("show on" + what, RefusedTest::busy, INDEX, h -> h.show(0, f));
            refused("show of a long number on" + what, RefusedTest::busy, INDEX, h -> h.show(1, f));
            refused("quicker of" + what, RefusedTest::busy, INDEX, h -> h.quicker(f, 0, 1));
            refused("quicker or" + what, RefusedTest::busy, INDEX, h -> h.quicker(0, f, 1));
            refused("quicker below 0 of" + what, RefusedTest::busy, INDEX, h -> h.quicker(f, 0, -1));
            refused("quicker below 0 or" + what, RefusedTest::busy, INDEX, h -> h.quicker(0, f, -1));
            refused("quicker, too long, or" + what, RefusedTest::busy, INDEX, h -> h.quicker(2, f, 100));
            refused("quicker, too long, of" + what, RefusedTest::busy, INDEX, h -> h.quicker(f, 2, 100));
        }
    }

    /** "or ROD of it": also a ROD that another FRAME has; ahead of all that is wrong besides. */
    private void noSuchRod() {
        for (int frame = 0; frame < 4; frame++) {
            int f = frame;
            for (int r : new int[] {RODS[f], RODS[f] + 1, 8, -1, MIN, MAX}) {
                String what = " of rod " + r + " of frame " + f;
                refused("push" + what, RefusedTest::busy, INDEX, h -> h.push(f, r, false, 1));
                refused("push 0" + what, RefusedTest::busy, INDEX, h -> h.push(f, r, true, 0));
                refused("push too many" + what, RefusedTest::busy, INDEX, h -> h.push(f, r, true, MIN));
                refused("set" + what, RefusedTest::busy, INDEX, h -> h.set(f, r, 0));
                refused("set below 0" + what, RefusedTest::busy, INDEX, h -> h.set(f, r, -1));
                refused("set too much" + what, RefusedTest::busy, INDEX, h -> h.set(f, r, 16));
                refused("grease" + what, RefusedTest::busy, INDEX, h -> h.grease(f, r));
                refused("ofRod" + what, RefusedTest::busy, INDEX, h -> h.ofRod(f, r, 0));
                refused("ofRod -1" + what, RefusedTest::busy, INDEX, h -> h.ofRod(f, r, -1));
                refused("ofRod 6" + what, RefusedTest::busy, INDEX, h -> h.ofRod(f, r, 6));
                refused("hardest" + what, RefusedTest::busy, INDEX, h -> h.hardest(f, r));
            }
        }
    }

    /** frame(): "if kind is not 0 to 2, or rods not 2 to 8", then "if there are 4". */
    private void noSuchFrameToMake() {
        for (Halls.Build build : new Halls.Build[] {SorobanHall::new, RefusedTest::two, RefusedTest::busy}) {
            for (int wrong : new int[] {-1, 3, MIN, MAX}) {
                refused("frame of kind " + wrong, build, ARGUMENT, h -> h.frame(wrong, 2));
                refused("frame of kind " + wrong + " with 9 rods", build, ARGUMENT, h -> h.frame(wrong, 9));
            }
            for (int wrong : new int[] {0, 1, 9, -1, MIN, MAX}) {
                refused("frame with rods " + wrong, build, ARGUMENT, h -> h.frame(0, wrong));
            }
        }
        refused("a 5th frame", RefusedTest::busy, STATE, h -> h.frame(0, 2));
        refused("a 5th frame", RefusedTest::busy, STATE, h -> h.frame(2, 8));
    }

    /** push(): "if beads is 0", then "if there are not so many to move that way". */
    private void noSuchBeads() {
        for (int frame = 0; frame < 4; frame++) {
            int f = frame;
            SorobanHall hall = busy();
            for (int rod = 0; rod < RODS[f]; rod += RODS[f] - 1) {
                int r = rod;
                for (boolean isAbove : new boolean[] {true, false}) {
                    int size = isAbove ? Halls.ABOVE[KINDS[f]] : Halls.BELOW[KINDS[f]];
                    int counted = hall.ofRod(f, r, isAbove ? 1 : 2);
                    String what = " at rod " + r + " of frame " + f;
                    refused("push 0" + what, RefusedTest::busy, ARGUMENT, h -> h.push(f, r, isAbove, 0));
                    for (int beads : new int[] {size - counted + 1, -counted - 1, 11, -11, MIN, MAX}) {
                        refused("push " + beads + what, RefusedTest::busy, STATE, h -> h.push(f, r, isAbove, beads));
                    }
                }
            }
        }
    }

    /** set(): "if value is not 0 to MOST". */
    private void noSuchValue() {
        for (int frame = 0; frame < 4; frame++) {
            int f = frame;
            for (int value : new int[] {Halls.MOST[KINDS[f]] + 1, 16, -1, MIN, MAX}) {
                refused("set " + value + " on " + f, RefusedTest::busy, ARGUMENT, h -> h.set(f, 0, value));
                refused("set " + value + " on " + f, RefusedTest::busy, ARGUMENT, h -> h.set(f, RODS[f] - 1, value));
            }
        }
    }

    /** "if number is below 0, or has more digits than there are RODS". */
    private void noSuchNumber() {
        int[] tooLong = {10000, 100000000, 100, 1000};
        for (int frame = 0; frame < 4; frame++) {
            int f = frame;
            for (int n : new int[] {tooLong[f], tooLong[f] + 1, 100000000, 999999999, MAX, -1, -tooLong[f], MIN}) {
                String what = " " + n + " on " + f;
                refused("add" + what, RefusedTest::busy, ARGUMENT, h -> h.add(f, n));
                refused("off" + what, RefusedTest::busy, ARGUMENT, h -> h.off(f, n));
                refused("wouldTake" + what, RefusedTest::busy, ARGUMENT, h -> h.wouldTake(f, n));
                for (int w : new int[] {0, 3, 4, -1}) {
                    refused("would" + what, RefusedTest::busy, ARGUMENT, h -> h.would(f, n, w));
                }
                if (n < 0) {
                    refused("quicker" + what, RefusedTest::busy, ARGUMENT, h -> h.quicker(f, 3 - f, n));
                    refused("quicker" + what, RefusedTest::busy, ARGUMENT, h -> h.quicker(f, f, n));
                }
            }
        }
    }

    /** times(): "if digit is not 0 to 9"; divide(): "if digit is not 1 to 9". */
    private void noSuchDigit() {
        for (int frame = 0; frame < 4; frame++) {
            int f = frame;
            for (int digit : new int[] {10, 11, -1, MIN, MAX}) {
                refused("times " + digit + " on " + f, RefusedTest::busy, ARGUMENT, h -> h.times(f, digit));
                refused("divide " + digit + " on " + f, RefusedTest::busy, ARGUMENT, h -> h.divide(f, digit));
            }
            refused("divide 0 on " + f, RefusedTest::busy, ARGUMENT, h -> h.divide(f, 0));
        }
    }

    /** "if what is not 0 to ...". */
    private void noSuchWhat() {
        for (int wrong : new int[] {-1, MIN, MAX}) {
            refused("many " + wrong, RefusedTest::busy, ARGUMENT, h -> h.many(wrong));
            refused("ofRod " + wrong, RefusedTest::busy, ARGUMENT, h -> h.ofRod(0, 0, wrong));
            refused("ofFrame " + wrong, RefusedTest::busy, ARGUMENT, h -> h.ofFrame(0, wrong));
            refused("would " + wrong, RefusedTest::busy, ARGUMENT, h -> h.would(0, 1, wrong));
        }
        refused("many 5", RefusedTest::busy, ARGUMENT, h -> h.many(5));
        refused("many 5 of an empty hall", SorobanHall::new, ARGUMENT, h -> h.many(5));
        refused("ofRod 6", RefusedTest::busy, ARGUMENT, h -> h.ofRod(1, 7, 6));
        refused("ofFrame 13", RefusedTest::busy, ARGUMENT, h -> h.ofFrame(1, 13));
        refused("would 4", RefusedTest::busy, ARGUMENT, h -> h.would(1, 7, 4));
    }

    /** back(): "if none is kept"; the other FRAMES keep theirs. */
    private void noneKept() {
        refused("back of none", RefusedTest::busy, STATE, h -> h.back(2));
        int[] kept = {4, 12, 0, 2};
        for (int frame = 0; frame < 4; frame++) {
            int f = frame;
            Halls.Build emptied = () -> {
                SorobanHall hall = busy();
                for (int k = 0; k < kept[f]; k++) {
                    hall.back(f);
                }
                return hall;
            };
            refused("back of none any more of " + f, emptied, STATE, h -> h.back(f));
            check.due("back of the last of " + f, emptied.hall().ofFrame(f, 8), 0);
        }
    }

    /** off(): "-2, if the FRAME is not TIDY, or it is more than NUMBER (nothing is done, nothing kept)". */
    private void offNotDone() {
        for (int number : new int[] {0, 1, 115, 999}) {
            check.dueNothingDone("off " + number + ", not TIDY", RefusedTest::busy, -2, h -> h.off(3, number));
        }
        for (int number : new int[] {9788, 9790, 9999}) {
            check.dueNothingDone("off " + number + " of 9787", RefusedTest::busy, -2, h -> h.off(0, number));
        }
        for (int number : new int[] {1, 10, 99}) {
            check.dueNothingDone("off " + number + " of 0", RefusedTest::busy, -2, h -> h.off(2, number));
        }
        check.due("off 9787 of 9787", busy().off(0, 9787), 8);
        check.due("off 0 of 0", busy().off(2, 0), 0);
    }

    /** show(): "-2, if the NUMBER has more digits than the other one has RODS (nothing is done, nothing kept)". */
    private void showNotDone() {
        check.due("115 on 4 rods: 9787 becomes 0115", Check.outcome(busy(), h -> h.show(3, 0)), 2 + 2 + 2 + 1);
        check.dueNothingDone("115 on 2 rods", RefusedTest::busy, -2, h -> h.show(3, 2));
        check.dueNothingDone("9787 on 3 rods", RefusedTest::busy, -2, h -> h.show(0, 3));
        check.dueNothingDone("9787 on 2 rods", RefusedTest::busy, -2, h -> h.show(0, 2));
        check.dueNothingDone("a long one on 4 rods", RefusedTest::busy, -2, h -> h.show(1, 0));
        Halls.Build most = () -> Halls.of(Halls.CHINESE, "FF");
        check.dueNothingDone("165 on its own 2 rods", most, -2, h -> h.show(0, 0));
    }

    /** Each method that only asks, and each that tells what would be: nothing is changed by it. */
    private void askingChangesNothing() {
        for (int frame = 0; frame < 4; frame++) {
            int f = frame;
            asked("number", h -> h.number(f));
            asked("seconds", h -> h.seconds(f));
            asked("text", h -> h.text(f));
            asked("showings", h -> h.showings(f));
            asked("fewest", h -> h.fewest(f));
            asked("quicker", h -> h.quicker(f, 3 - f, 99));
            asked("quicker with itself", h -> h.quicker(f, f, 25));
            int most = new int[] {9999, 99999999, 99, 999}[f];
            for (int number : new int[] {0, 1, 99, most}) {
                asked("wouldTake", h -> h.wouldTake(f, number));
                for (int w = 0; w <= 3; w++) {
                    int what = w;
                    asked("would", h -> h.would(f, number, what));
                }
            }
            for (int w = 0; w <= 12; w++) {
                int what = w;
                asked("ofFrame", h -> h.ofFrame(f, what));
            }
            for (int rod = 0; rod < RODS[f]; rod++) {
                int r = rod;
                asked("hardest", h -> h.hardest(f, r));
                asked("ofRod", h -> h.ofRod(f, r, r % 6));
            }
        }
        for (int w = 0; w <= 4; w++) {
            int what = w;
            asked("many", h -> h.many(what));
        }
        asked("digest", h -> h.digest());
        check.dueNothingDone("quicker, too long", RefusedTest::busy, -1, h -> h.quicker(2, 1, 100));
    }

    private void asked(String what, Check.Call call) {
        Object answer = Check.outcome(busy(), call);
        check.due(what + " answers", answer instanceof Number || !answer.toString().startsWith("throws."), true);
        check.dueNothingDone(what, RefusedTest::busy, answer, call);
    }
}
