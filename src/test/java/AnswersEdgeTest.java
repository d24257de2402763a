/** The boundary cases of promises 16 to 28: the first and the last argument that is let, and each case told apart. */
public final class AnswersEdgeTest {
    private static final Class<?> ARGUMENT = IllegalArgumentException.class;
    private static final int[] POWERS = {1, 10, 100, 1000, 10000, 100000, 1000000, 10000000, 100000000};

    private final Check check = new Check();

    public static void main(String[] args) {
        AnswersEdgeTest test = new AnswersEdgeTest();
        test.whatOfRod();
        test.whatOfFrame();
        test.signs();
        test.whatOfHall();
        test.pairsOfFrames();
        test.waysOfShowing();
        test.waysAtTheLastRod();
        test.wouldAsAdded();
        test.wouldOfDigits();
        test.quickerOfBoth();
        test.quickerTooLong();
        test.hardestOfAll();
        test.hardestByHand();
        test.digests();
        test.digestWithoutFrames();
        test.check.end("AnswersEdgeTest");
    }

    /** Promise 17: "what", 0 to 5, at the first and the last ROD. */
    private void whatOfRod() {
        SorobanHall hall = Halls.with(Halls.CHINESE, 8);
        for (int rod = 0; rod < 8; rod += 7) {
            hall.push(0, rod, true, 2);
            hall.push(0, rod, true, -1);
            hall.push(0, rod, false, 5);
            hall.push(0, rod, false, -1);
            int[] due = {9, 1, 4, 3, 6, 0};
            for (int what = 0; what <= 5; what++) {
                check.due("ofRod(" + rod + ", " + what + ")", hall.ofRod(0, rod, what), due[what]);
            }
        }
    }

    /** Promise 18: "what", 0 to 12. */
    private void whatOfFrame() {
        SorobanHall hall = Halls.of(Halls.CHINESE, "0F9");
        hall.add(0, 991);
        // 9 at rod 2; 15 and 9 at rod 1 leave 14, a CARRY to 9 leaves 0 and is SPILLED; 9 and 1 leave 0, a CARRY
        // to 14 leaves 5, a CARRY to rod 2.
        check.due("text", hall.text(0), "150");
        hall.off(0, 1);
        check.due("text then", hall.text(0), "149");
        int[] counted = {1, 3, -1, -1, 4, 1, 1, 0, 5, 1, 14, 149 % 11, -1};
        for (int what = 0; what <= 12; what++) {
            if (counted[what] >= 0) {
                check.due("ofFrame " + what, hall.ofFrame(0, what), counted[what]);
            }
        }
        check.due("beads that count", hall.ofFrame(0, 12), beadsThatCount(hall));
        SorobanHall most = Halls.of(Halls.CHINESE, "FFFFFFFF");
        check.due("the most beads", most.ofFrame(0, 12), 56);
        check.due("the greatest sum of VALUES", most.ofFrame(0, 10), 120);
    }

    private static int beadsThatCount(SorobanHall hall) {
        int sum = 0;
        for (int rod = 0; rod < hall.ofFrame(0, 1); rod++) {
            sum += hall.ofRod(0, rod, 1) + hall.ofRod(0, rod, 2);
        }
        return sum;
    }

    /** Promise 20: "("0" to "9", then "A" for 10 up to "F" for 15)". */
    private void signs() {
        for (int kind = 0; kind <= 2; kind++) {
            for (int value = 0; value <= Halls.MOST[kind]; value++) {
                SorobanHall hall = Halls.with(kind, 2);
                hall.set(0, 1, value);
                check.due("sign of " + value, hall.text(0), "0123456789ABCDEF".charAt(value) + "0");
            }
        }
    }

    /** Promise 21: "what", 0 to 4; none, and of all FRAMES. */
    private void whatOfHall() {
        SorobanHall hall = new SorobanHall();
        int pushes = 0;
        int spilled = 0;
        for (int frame = 0; frame < 4; frame++) {
            hall.frame(Halls.JAPANESE, 2);
            hall.set(frame, 1, frame + 1);
            hall.shift(frame, true);
            hall.strike();
            pushes += 2;
            spilled += frame + 1;
            int[] due = {frame + 1, frame + 1, pushes, spilled, frame * (frame + 1) / 2};
            for (int what = 0; what <= 4; what++) {
                check.due("many " + what + " of " + (frame + 1), hall.many(what), due[what]);
            }
        }
    }

    /** "pairs of FRAMES that show the same NUMBER": by how many FRAMES, by whichever KIND, RODS and beads. */
    private void pairsOfFrames() {
        int[] pairs = {0, 0, 1, 3, 6};
        for (int same = 0; same <= 4; same++) {
            SorobanHall hall = new SorobanHall();
            hall.frame(Halls.CHINESE, 2);
            hall.frame(Halls.RUSSIAN, 3);
            hall.frame(Halls.JAPANESE, 8);
            hall.frame(Halls.RUSSIAN, 2);
            for (int frame = 0; frame < 4; frame++) {
                hall.add(frame, frame < same ? 10 : 20 + frame);
            }
            check.due("pairs of " + same + " the same", hall.many(4), pairs[same]);
            if (same == 4) {
                hall.set(3, 1, 0);
                hall.set(3, 0, 10);
                check.due("10 by one ROD too", hall.many(4), 6);
                hall.add(0, 1);
                hall.add(1, 1);
                check.due("two pairs", hall.many(4), 2);
            }
        }
    }

    /** Promises 22 and 23: all ways, gone through one by one, on 2 and 3 RODS; one way, and the most. */
    private void waysOfShowing() {
        for (int kind = 0; kind <= 2; kind++) {
            for (int rods = 2; rods <= 3; rods++) {
                int end = Halls.MOST[kind] * (rods == 2 ? 11 : 111) + 1;
                long[] ways = new long[end];
                int[] fewest = new int[end];
                countWays(kind, rods, 0, 0, ways, fewest);
                for (int number = 0; number < end; number++) {
                    SorobanHall hall = Halls.with(kind, rods);
                    if (showsNumber(hall, kind, rods, number)) {
                        check.due("showings of " + number + " on " + rods, hall.showings(0), ways[number]);
                        check.due("fewest of " + number + " on " + rods, hall.fewest(0), fewest[number]);
                    }
                }
            }
        }
    }

    private static void countWays(int kind, int rodsLeft, int shown, int beads, long[] ways, int[] fewest) {
        if (rodsLeft == 0) {
            fewest[shown] = ways[shown] == 0 ? beads : Math.min(fewest[shown], beads);
            ways[shown]++;
            return;
        }
        for (int up = 0; up <= Halls.ABOVE[kind]; up++) {
            for (int down = 0; down <= Halls.BELOW[kind]; down++) {
                countWays(kind, rodsLeft - 1, 10 * shown + 5 * up + down, beads + up + down, ways, fewest);
            }
        }
    }

    /** From the left on as much on each ROD as there can be. */
    private static boolean showsNumber(SorobanHall hall, int kind, int rods, int number) {
        int rest = number;
        for (int rod = rods - 1; rod >= 0; rod--) {
            int value = Math.min(rest / POWERS[rod], Halls.MOST[kind]);
            hall.set(0, rod, value);
            rest -= value * POWERS[rod];
        }
        return rest == 0;
    }

    /** A NUMBER of more digits than RODS: the last ROD alone can show its first two. */
    private void waysAtTheLastRod() {
        for (int rods = 2; rods <= 8; rods++) {
            SorobanHall most = Halls.of(Halls.CHINESE, "FFFFFFFF".substring(8 - rods));
            check.due("one way of all 15", most.showings(0), 1L);
            check.due("beads of all 15", most.fewest(0), 7 * rods);
            SorobanHall ten = Halls.of(Halls.RUSSIAN, "A0000000".substring(0, rods));
            // Ten at a ROD, or nine there and the rest on its right, as many times as there are RODS.
            check.due("ways of ten and zeros", ten.showings(0), (long) rods);
            check.due("beads of ten and zeros", ten.fewest(0), 10);
            SorobanHall none = Halls.of(Halls.CHINESE, "00000000".substring(8 - rods));
            check.due("one way of 0", none.showings(0), 1L);
            check.due("no beads of 0", none.fewest(0), 0);
            SorobanHall tens = Halls.of(Halls.RUSSIAN, "AAAAAAAA".substring(8 - rods));
            check.due("one way of all 10", tens.showings(0), 1L);
            check.due("beads of all 10", tens.fewest(0), 10 * rods);
        }
        SorobanHall japanese = Halls.of(Halls.JAPANESE, "99999999");
        check.due("one way of all 9", japanese.showings(0), 1L);
        check.due("beads of all 9", japanese.fewest(0), 40);
    }

    /** Promises 24 and 25: what add() then does, for the least and the greatest number, and such as SPILL. */
    private void wouldAsAdded() {
        String[] shown = {"00", "99", "90", "09", "45", "55", "000", "999", "949", "00000000", "99999999", "44444444"};
        for (int kind = 0; kind <= 2; kind++) {
            for (String text : shown) {
                int greatest = POWERS[text.length()] - 1;
                for (int number : new int[] {0, 1, 5, 9, 10, 11, 56, 99, greatest / 2, greatest}) {
                    dueWouldTwice(Halls.of(kind, text), number);
                    if (kind != Halls.JAPANESE) {
                        dueWouldTwice(Halls.of(kind, text.replace('9', 'A').replace('4', 'A')), number);
                    }
                }
            }
        }
        for (int k = 38; k <= 42; k++) {
            SorobanHall worn = Halls.with(Halls.RUSSIAN, 2);
            for (int j = 0; j < k; j++) {
                worn.push(0, 0, false, j % 2 == 0 ? 1 : -1);
            }
            check.due("wouldTake with WEAR " + k, worn.wouldTake(0, 1), k < 40 ? 0.3125 : 0.625);
            dueWouldTwice(worn, 8);
        }
    }

    /** Once more with what was counted by the first time: "by that alone". */
    private void dueWouldTwice(SorobanHall hall, int number) {
        dueWould(hall, number);
        dueWould(hall, number);
    }

    private void dueWould(SorobanHall hall, int number) {
        String what = "would add " + number + " to " + hall.text(0);
        int[] would = new int[4];
        int[] before = new int[4];
        int[] of = {2, 3, 4, 6};
        for (int k = 0; k <= 3; k++) {
            would[k] = hall.would(0, number, k);
            before[k] = hall.ofFrame(0, of[k]);
        }
        double took = hall.wouldTake(0, number);
        double then = hall.seconds(0);
        check.due(what + ": PUSHES as add() answers", hall.add(0, number), would[0]);
        for (int k = 0; k <= 3; k++) {
            check.due(what + ": " + k, hall.ofFrame(0, of[k]) - before[k], would[k]);
        }
        check.due(what + ": SECONDS", hall.seconds(0) - then, took);
        check.due(what + ": 0 does nothing", number == 0 && (would[0] != 0 || took != 0.0), false);
    }

    /** Promises 24 and 25: "or has more digits than there are RODS", "what is not 0 to 3". */
    private void wouldOfDigits() {
        for (int rods = 2; rods <= 8; rods++) {
            int width = rods;
            Halls.Build build = () -> Halls.with(Halls.RUSSIAN, width);
            int greatest = POWERS[rods] - 1;
            int[] due = {rods, 9 * rods, 0, 0};
            for (int what = 0; what <= 3; what++) {
                int asked = what;
                check.dueNothingDone("would " + greatest, build, due[what], h -> h.would(0, greatest, asked));
                check.dueRefused("would " + (greatest + 1), build, ARGUMENT, h -> h.would(0, greatest + 1, asked));
                check.dueRefused("would -1", build, ARGUMENT, h -> h.would(0, -1, asked));
            }
            check.dueRefused("would what -1", build, ARGUMENT, h -> h.would(0, greatest, -1));
            check.dueRefused("would what 4", build, ARGUMENT, h -> h.would(0, greatest, 4));
            // To the last ROD and back: 2 * (rods - 1) steps.
            check.dueNothingDone("wouldTake " + greatest, build, rods * 0.8125 + 2 * (rods - 1) * 0.125,
                    h -> h.wouldTake(0, greatest));
            check.dueRefused("wouldTake " + (greatest + 1), build, ARGUMENT, h -> h.wouldTake(0, greatest + 1));
            check.dueRefused("wouldTake -1", build, ARGUMENT, h -> h.wouldTake(0, -1));
        }
    }

    /** Promise 26: "by which wouldTake() is less; if both are as quick, the FRAME with the smaller number". */
    private void quickerOfBoth() {
        SorobanHall hall = new SorobanHall();
        hall.frame(Halls.RUSSIAN, 2);
        hall.frame(Halls.JAPANESE, 3);
        hall.frame(Halls.CHINESE, 8);
        hall.frame(Halls.RUSSIAN, 2);
        hall.set(3, 1, 2);
        for (int one = 0; one < 4; one++) {
            for (int other = 0; other < 4; other++) {
                for (int number : new int[] {0, 1, 4, 5, 8, 9, 10, 25, 99}) {
                    double byOne = hall.wouldTake(one, number);
                    double byOther = hall.wouldTake(other, number);
                    int want = byOne < byOther ? one : byOther < byOne ? other : Math.min(one, other);
                    String what = "quicker of " + one + " and " + other + " with " + number;
                    check.due(what, hall.quicker(one, other, number), want);
                }
            }
        }
        check.due("as quick with 4", hall.quicker(1, 0, 4), 0);
        check.due("as quick with 0", hall.quicker(3, 2, 0), 2);
        check.due("5 below against 1 above", hall.quicker(0, 1, 5), 1);
        check.due("9 by one PUSH against two", hall.quicker(1, 0, 9), 0);
        check.due("the HAND there already", hall.quicker(0, 3, 10), 3);
        check.due("the HAND there already, the other way round", hall.quicker(3, 0, 10), 3);
    }

    /** "NONE, if the number has more digits than one of both has RODS". */
    private void quickerTooLong() {
        Halls.Build build = () -> {
            SorobanHall hall = new SorobanHall();
            hall.frame(Halls.RUSSIAN, 2);
            hall.frame(Halls.RUSSIAN, 3);
            hall.frame(Halls.RUSSIAN, 8);
            hall.frame(Halls.RUSSIAN, 3);
            return hall;
        };
        int[] rods = {2, 3, 8, 3};
        for (int one = 0; one < 4; one++) {
            for (int other = 0; other < 4; other++) {
                int a = one;
                int b = other;
                int end = POWERS[Math.min(rods[a], rods[b])];
                String what = " of " + a + " and " + b;
                check.dueNothingDone("quicker, just fitting," + what, build, Math.min(a, b),
                        h -> h.quicker(a, b, end - 1));
                check.dueNothingDone("quicker, a digit more," + what, build, -1, h -> h.quicker(a, b, end));
                check.dueNothingDone("quicker with MAX" + what, build, -1,
                        h -> h.quicker(a, b, Integer.MAX_VALUE));
                check.dueRefused("quicker with -1" + what, build, ARGUMENT, h -> h.quicker(a, b, -1));
                check.dueRefused("quicker with MIN" + what, build, ARGUMENT,
                        h -> h.quicker(a, b, Integer.MIN_VALUE));
            }
        }
    }

    /** Promise 27: "the digit (1 to 9) that would take the most PUSHES ...; of several the smallest one". */
    private void hardestOfAll() {
        for (int kind = 0; kind <= 2; kind++) {
            int most = Halls.MOST[kind];
            for (int left = 0; left <= most; left++) {
                for (int right = 0; right <= most; right++) {
                    for (int far = 0; far <= most; far += most) {
                        SorobanHall hall = Halls.with(kind, 3);
                        hall.set(0, 2, far);
                        hall.set(0, 1, left);
                        hall.set(0, 0, right);
                        for (int rod = 0; rod < 3; rod++) {
                            check.due("hardest at rod " + rod + " of " + hall.text(0), hall.hardest(0, rod),
                                    hardestToAdd(hall, rod));
                        }
                    }
                }
            }
        }
    }

    /** A digit that is ADDED with zeros behind it is BROUGHT to its ROD alone. */
    private static int hardestToAdd(SorobanHall hall, int rod) {
        int hardest = 1;
        for (int digit = 2; digit <= 9; digit++) {
            if (hall.would(0, digit * POWERS[rod], 0) > hall.would(0, hardest * POWERS[rod], 0)) {
                hardest = digit;
            }
        }
        return hardest;
    }

    /** The same, where the PUSHES can be told by hand. */
    private void hardestByHand() {
        check.due("one PUSH by each digit", Halls.of(Halls.RUSSIAN, "00").hardest(0, 0), 1);
        check.due("9 alone carries", Halls.of(Halls.RUSSIAN, "01").hardest(0, 0), 9);
        check.due("from 2 on they carry", Halls.of(Halls.RUSSIAN, "08").hardest(0, 0), 2);
        check.due("all carry", Halls.of(Halls.RUSSIAN, "09").hardest(0, 0), 1);
        check.due("all carry at ten", Halls.of(Halls.RUSSIAN, "0A").hardest(0, 0), 1);
        check.due("a CARRY that is SPILLED takes no PUSH", Halls.of(Halls.RUSSIAN, "50").hardest(0, 1), 1);
        check.due("6 by both DECKS", Halls.of(Halls.JAPANESE, "00").hardest(0, 0), 6);
        check.due("6 by both DECKS at rod 7", Halls.of(Halls.JAPANESE, "00000000").hardest(0, 7), 6);
        check.due("1 makes 5 of 4, by both DECKS", Halls.of(Halls.JAPANESE, "04").hardest(0, 0), 1);
        check.due("1 makes 50 of 49, four PUSHES", Halls.of(Halls.JAPANESE, "049").hardest(0, 0), 1);
    }

    /** Promise 28, for none to four FRAMES, of which the last one is now quicker with 25, now not. */
    private void digests() {
        SorobanHall hall = new SorobanHall();
        hall.strike();
        dueDigest(hall, 0);
        int[] kinds = {2, 0, 1, 0};
        int[] rods = {2, 3, 2, 4};
        for (int frame = 0; frame < 4; frame++) {
            hall.frame(kinds[frame], rods[frame]);
            dueDigest(hall, frame + 1);
            hall.add(frame, 79 + frame);
            if (frame % 2 == 0) {
                hall.times(frame, 9);
            }
            dueDigest(hall, frame + 1);
        }
        SorobanHall two = Halls.with(Halls.RUSSIAN, 2);
        two.frame(Halls.JAPANESE, 2);
        check.due("the last one, with 25", two.quicker(0, 1, 25), 1);
        check.due("as quick with 24 and 26", two.quicker(0, 1, 24) + two.quicker(0, 1, 26), 0);
        dueDigest(two, 2);
    }

    private void dueDigest(SorobanHall hall, int frames) {
        check.due("FRAMES", hall.many(0), frames);
        check.due("digest of " + frames + " FRAMES", hall.digest(), Halls.digestTold(hall));
        check.due("digest once more", hall.digest(), Halls.digestTold(hall));
    }

    /** "(nothing without FRAMES)": five numbers alone, of which the second one is REFUSED. */
    private void digestWithoutFrames() {
        SorobanHall hall = new SorobanHall();
        long none = 58320L * 28629151L;
        check.due("digest at first", hall.digest(), none);
        hall.strike();
        check.due("digest with one REFUSED", hall.digest(), none + 29791L);
        // A new JAPANESE frame of 2 rods, reckoned by hand.
        SorobanHall one = Halls.with(Halls.JAPANESE, 2);
        long[] told = {
            1, 0, 0, 0, 0,
            0, 2, 0, 0, 0, 0, 0, 0, 0, 1, 0, 0, 0,
            0, 0, 1, 0,
            2, 3, 0, 0, 11,
            0, 0, 0, 0, 0, 0, 6,
            0, 0, 0, 0, 0, 0, 6,
            0,
        };
        long d = 58320;
        for (long v : told) {
            d = d * 31 + v;
        }
        check.due("digest of a new frame", one.digest(), d);
    }
}
