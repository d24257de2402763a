/** Promises 22 to 28: showings, fewest, would, wouldTake, quicker, hardest and digest. */
public final class WouldTest {
    private static final Class<?> INDEX = IndexOutOfBoundsException.class;
    private static final Class<?> ARGUMENT = IllegalArgumentException.class;

    public static void main(String[] args) {
        Check check = new Check();
        waysToShow(check);
        waysCountedOneByOne(check);
        wouldAdd(check);
        wouldTakeSeconds(check);
        quickerOfTwo(check);
        hardestDigit(check);
        digests(check);
        wrongArguments(check);
        check.end("WouldTest");
    }

    private static void dueShown(Check check, int kind, String values, long ways, int beads) {
        SorobanHall hall = Halls.of(kind, values);
        check.dueUnchanged("showings of " + values, hall, ways, h -> h.showings(0));
        check.dueUnchanged("fewest of " + values, hall, beads, h -> h.fewest(0));
    }

    private static void waysToShow(Check check) {
        dueShown(check, 0, "98", 1, 9);
        dueShown(check, 0, "00", 1, 0);
        dueShown(check, 1, "155", 8, 3);
        dueShown(check, 1, "0F5", 8, 3);
        // 10: 1 and 0; or 10 on the right by 2 above, or by 1 above and 5 below.
        dueShown(check, 1, "10", 3, 1);
        // 165 (FF) does not fit otherwise, as no third ROD takes the 1.
        dueShown(check, 1, "FF", 1, 14);
        dueShown(check, 1, "A0", 2 + 2, 2);
        dueShown(check, 2, "AA", 1, 20);
        dueShown(check, 2, "10", 2, 1);
        dueShown(check, 2, "0A", 2, 1);
        dueShown(check, 2, "110", 2 + 1, 2);
    }

    /** All ways of small frames, one by one, against showings() and fewest(). */
    private static void waysCountedOneByOne(Check check) {
        for (int kind = 0; kind <= 2; kind++) {
            int most = kind == 0 ? 9 : kind == 1 ? 15 : 10;
            for (int left = 0; left <= most; left++) {
                for (int right = 0; right <= most; right++) {
                    SorobanHall hall = new SorobanHall();
                    hall.frame(kind, 2);
                    hall.set(0, 1, left);
                    hall.set(0, 0, right);
                    dueCounted(check, hall, kind, 10 * left + right);
                }
            }
        }
    }

    private static void dueCounted(Check check, SorobanHall hall, int kind, int number) {
        int above = kind == 0 ? 1 : kind == 1 ? 2 : 0;
        int below = kind == 0 ? 4 : kind == 1 ? 5 : 10;
        long ways = 0;
        int fewest = Integer.MAX_VALUE;
        for (int u1 = 0; u1 <= above; u1++) {
            for (int d1 = 0; d1 <= below; d1++) {
                for (int u0 = 0; u0 <= above; u0++) {
                    for (int d0 = 0; d0 <= below; d0++) {
                        if (10 * (5 * u1 + d1) + 5 * u0 + d0 == number) {
                            ways++;
                            fewest = Math.min(fewest, u1 + d1 + u0 + d0);
                        }
                    }
                }
            }
        }
        check.due("showings of " + number + " on kind " + kind, hall.showings(0), ways);
        check.due("fewest of " + number + " on kind " + kind, hall.fewest(0), fewest);
    }

    private static void wouldAdd(Check check) {
        SorobanHall hall = Halls.of(0, "0995");
        hall.add(0, 0);
        int[] due = {2 + 2 + 1 + 1, 1 + 5 + 5 + 1, 3, 0};
        for (int what = 0; what <= 3; what++) {
            int asked = what;
            check.dueUnchanged("would 5, " + what, hall, due[what], h -> h.would(0, 5, asked));
            check.dueUnchanged("would 0, " + what, hall, 0, h -> h.would(0, 0, asked));
        }
        SorobanHall spills = Halls.of(0, "99");
        spills.add(0, 99);
        check.dueUnchanged("would be SPILLED by that alone", spills, 1, h -> h.would(0, 99, 3));
        check.dueUnchanged("CARRIES by that alone", spills, 2, h -> h.would(0, 99, 2));
        int pushes = spills.would(0, 57, 0);
        int beads = spills.would(0, 57, 1);
        int before = spills.ofFrame(0, 3);
        check.due("PUSHES that would be", spills.add(0, 57), pushes);
        check.due("BEADS that would be", spills.ofFrame(0, 3) - before, beads);
        SorobanHall two = new SorobanHall();
        two.frame(0, 8);
        two.frame(2, 3);
        two.set(0, 7, 9);
        two.would(0, 12345678, 0);
        check.due("after a wider frame was tried", two.would(1, 999, 0), 3);
        check.due("BEADS of that", two.would(1, 999, 1), 27);
    }

    private static void wouldTakeSeconds(Check check) {
        SorobanHall hall = Halls.of(2, "000");
        hall.set(0, 2, 1);
        check.dueUnchanged("1 far away", hall, 0.25 + 0.3125, h -> h.wouldTake(0, 1));
        check.dueUnchanged("100 here", hall, 0.3125, h -> h.wouldTake(0, 100));
        check.dueUnchanged("0", hall, 0.0, h -> h.wouldTake(0, 0));
        for (int k = 0; k < 4; k++) {
            hall.push(0, 0, false, k % 2 == 0 ? 10 : -10);
        }
        check.dueUnchanged("1 at a WORN ROD", hall, 0.625, h -> h.wouldTake(0, 1));
        hall.grease(0, 0);
        check.dueUnchanged("1 at a greased ROD", hall, 0.3125, h -> h.wouldTake(0, 1));
        double took = hall.wouldTake(0, 987);
        double before = hall.seconds(0);
        hall.add(0, 987);
        check.due("as it would", hall.seconds(0) - before, took);
    }

    private static void quickerOfTwo(Check check) {
        SorobanHall hall = new SorobanHall();
        hall.frame(0, 2);
        hall.frame(2, 3);
        check.dueUnchanged("both as quick", hall, 0, h -> h.quicker(0, 1, 3));
        check.dueUnchanged("both as quick, the other way round", hall, 0, h -> h.quicker(1, 0, 3));
        check.dueUnchanged("5 below against 1 above", hall, 0, h -> h.quicker(1, 0, 5));
        check.dueUnchanged("9 by two PUSHES against one", hall, 0, h -> h.quicker(0, 1, 9));
        // 5 and 9 leave 4, by two PUSHES, and the CARRY is a third one.
        hall.set(0, 0, 5);
        check.dueUnchanged("a CARRY against none", hall, 1, h -> h.quicker(0, 1, 9));
        check.dueUnchanged("a CARRY against none, the other way round", hall, 1, h -> h.quicker(1, 0, 9));
        check.dueUnchanged("the same one", hall, 1, h -> h.quicker(1, 1, 9));
        check.dueUnchanged("too long for the one", hall, -1, h -> h.quicker(0, 1, 100));
        check.dueUnchanged("too long for the other", hall, -1, h -> h.quicker(1, 0, 100));
        check.dueUnchanged("too long for both", hall, -1, h -> h.quicker(1, 0, Integer.MAX_VALUE));
        check.dueUnchanged("long, but not for this one", hall, 1, h -> h.quicker(1, 1, 100));
        check.dueUnchanged("0 takes no time", hall, 0, h -> h.quicker(1, 0, 0));
    }

    private static void hardestDigit(Check check) {
        SorobanHall hall = Halls.of(0, "049");
        check.dueUnchanged("at 9: two by each digit but 5", hall, 1, h -> h.hardest(0, 0));
        check.dueUnchanged("at 4, the first of two PUSHES", hall, 1, h -> h.hardest(0, 1));
        check.dueUnchanged("at 0", hall, 6, h -> h.hardest(0, 2));
        SorobanHall russian = Halls.of(2, "99");
        check.dueUnchanged("a CARRY that goes on", russian, 1, h -> h.hardest(0, 0));
        check.dueUnchanged("on the left SPILLED", russian, 1, h -> h.hardest(0, 1));
        check.due("9 alone carries", Halls.of(2, "01").hardest(0, 0), 9);
        check.due("a lone digit of a new ROD", Halls.of(2, "00").hardest(0, 1), 1);
        check.due("the first that carries", Halls.of(2, "05").hardest(0, 0), 5);
    }

    private static void digests(Check check) {
        SorobanHall hall = new SorobanHall();
        hall.strike();
        check.due("digest without FRAMES", hall.digest(), Halls.digestTold(hall));
        hall.frame(0, 3);
        hall.add(0, 68);
        check.due("digest of one FRAME", hall.digest(), Halls.digestTold(hall));
        hall.frame(1, 2);
        hall.times(0, 9);
        hall.set(1, 1, 15);
        check.due("digest of two FRAMES", hall.digest(), Halls.digestTold(hall));
        check.due("digest again", hall.digest(), hall.digest());
        SorobanHall other = new SorobanHall();
        other.frame(2, 2);
        other.frame(0, 2);
        check.due("quicker with 25", other.quicker(0, 1, 25), 1);
        check.due("digest of both", other.digest(), Halls.digestTold(other));
    }

    private static void wrongArguments(Check check) {
        SorobanHall hall = new SorobanHall();
        hall.frame(0, 2);
        for (int wrong : new int[] {-1, 1, 4, Integer.MIN_VALUE, Integer.MAX_VALUE}) {
            check.dueThrow("showings of no frame", hall, INDEX, h -> h.showings(wrong));
            check.dueThrow("fewest of no frame", hall, INDEX, h -> h.fewest(wrong));
            check.dueThrow("would of no frame", hall, INDEX, h -> h.would(wrong, -1, 9));
            check.dueThrow("wouldTake of no frame", hall, INDEX, h -> h.wouldTake(wrong, -1));
            check.dueThrow("quicker of no one", hall, INDEX, h -> h.quicker(wrong, 0, -1));
            check.dueThrow("quicker of no other", hall, INDEX, h -> h.quicker(0, wrong, -1));
            check.dueThrow("quicker of no other, too long", hall, INDEX, h -> h.quicker(0, wrong, 100));
            check.dueThrow("hardest of no frame", hall, INDEX, h -> h.hardest(wrong, 0));
        }
        for (int wrong : new int[] {-1, 2, Integer.MIN_VALUE, Integer.MAX_VALUE}) {
            check.dueThrow("hardest of no rod", hall, INDEX, h -> h.hardest(0, wrong));
        }
        for (int wrong : new int[] {-1, 100, Integer.MIN_VALUE, Integer.MAX_VALUE}) {
            check.dueThrow("would of " + wrong, hall, ARGUMENT, h -> h.would(0, wrong, 0));
            check.dueThrow("would what " + wrong, hall, ARGUMENT, h -> h.would(0, 1, wrong));
            check.dueThrow("wouldTake of " + wrong, hall, ARGUMENT, h -> h.wouldTake(0, wrong));
        }
        check.dueThrow("would what 4", hall, ARGUMENT, h -> h.would(0, 1, 4));
        check.dueThrow("quicker of -1", hall, ARGUMENT, h -> h.quicker(0, 0, -1));
        check.dueThrow("quicker of MIN", hall, ARGUMENT, h -> h.quicker(0, 0, Integer.MIN_VALUE));
    }
}
