import java.util.ArrayList;
import java.util.List;

/** The boundary cases of "Terms", parts 1 (Frames), 2 (Pushes) and 4 (Taken back), on both sides of each. */
public final class TermsEdgeTest {
    private static final Class<?> ARGUMENT = IllegalArgumentException.class;
    private static final Class<?> STATE = IllegalStateException.class;
    private static final int[] EXTREMES = {Integer.MIN_VALUE, Integer.MAX_VALUE};

    private final Check check = new Check();

    public static void main(String[] args) {
        TermsEdgeTest test = new TermsEdgeTest();
        test.calls();
        test.atMostFourFrames();
        test.kinds();
        test.rodsOfAFrame();
        test.rodsFromTheRight();
        test.beadsOfEachKind();
        test.bothZeroAtFirst();
        test.mostOfEachKind();
        test.numberOfRods();
        test.tidyUpToNine();
        test.handAtAnotherRod();
        test.secondsByBeads();
        test.wornFromForty();
        test.wornAheadOfThePush();
        test.wornForEachDeck();
        test.setByFewestPushes();
        test.setOfTheSameValue();
        test.twelveKept();
        test.keptForEachFrame();
        test.keptRoundAndRound();
        test.backToUpAndDown();
        test.stayWhenGoneBack();
        test.greaseTakesWear();
        test.gong();
        test.check.end("TermsEdgeTest");
    }

    /** "An object is used for at most 512 calls": the 512th one is answered still. */
    private void calls() {
        SorobanHall struck = new SorobanHall();
        for (int k = 1; k <= 511; k++) {
            struck.strike();
        }
        check.due("the 512th call, strike()", struck.strike(), 512);

        SorobanHall pushed = Halls.with(Halls.RUSSIAN, 2);
        for (int k = 1; k <= 510; k++) {
            check.due("push " + k, pushed.push(0, 0, false, k % 2 == 1 ? 10 : -10), k % 2 == 1 ? 10 : 0);
        }
        // 4 PUSHES with WEAR of 0 to 30 ahead of them, 506 with 40 or more.
        check.due("the 512th call, seconds()", pushed.seconds(0), 4 * 0.875 + 506 * 1.75);

        SorobanHall multiplied = Halls.of(Halls.CHINESE, "FFFFFFFF");
        for (int k = 10; k <= 511; k++) {
            multiplied.times(0, 9);
        }
        check.due("the 512th call, back()", multiplied.back(0), 11);
    }

    /** "FRAMES: at most 4, numbered from 0". */
    private void atMostFourFrames() {
        for (int kind = 0; kind <= 2; kind++) {
            SorobanHall hall = new SorobanHall();
            for (int k = 0; k < 4; k++) {
                check.due("the number of frame " + k, hall.frame(kind, k + 2), k);
                check.due("FRAMES then", hall.many(0), k + 1);
            }
        }
        check.dueRefused("the 5th frame", TermsEdgeTest::fourFrames, STATE, h -> h.frame(0, 2));
        check.dueRefused("the 5th frame, the widest", TermsEdgeTest::fourFrames, STATE, h -> h.frame(2, 8));
        SorobanHall hall = fourFrames();
        for (int k = 0; k < 3; k++) {
            check.dueThrow("one more, refused again", hall, STATE, h -> h.frame(1, 5));
        }
        check.due("the 4th frame is as it was", hall.text(3), "00000012");
    }

    private static SorobanHall fourFrames() {
        SorobanHall hall = new SorobanHall();
        hall.frame(0, 2);
        hall.frame(1, 8);
        hall.frame(2, 3);
        hall.frame(0, 8);
        hall.add(3, 12);
        return hall;
    }

    /** "each of a KIND: 0 ..., 1 ..., 2 ...". */
    private void kinds() {
        for (int kind = 0; kind <= 2; kind++) {
            SorobanHall hall = new SorobanHall();
            check.due("kind " + kind, hall.frame(kind, 4), 0);
            check.due("KIND", hall.ofFrame(0, 0), kind);
        }
        for (int kind : new int[] {-1, 3, Integer.MIN_VALUE, Integer.MAX_VALUE}) {
            check.dueRefused("kind " + kind, SorobanHall::new, ARGUMENT, h -> h.frame(kind, 4));
            check.dueRefused("kind " + kind + " as a 5th", TermsEdgeTest::fourFrames, ARGUMENT, h -> h.frame(kind, 4));
        }
    }

    /** "with 2 to 8 RODS". */
    private void rodsOfAFrame() {
        for (int kind = 0; kind <= 2; kind++) {
            for (int rods = 2; rods <= 8; rods++) {
                SorobanHall hall = new SorobanHall();
                check.due("rods " + rods, hall.frame(kind, rods), 0);
                check.due("RODS", hall.ofFrame(0, 1), rods);
                check.due("signs of " + rods, hall.text(0), "00000000".substring(8 - rods));
            }
            int same = kind;
            for (int rods : new int[] {-1, 0, 1, 9, 10, Integer.MIN_VALUE, Integer.MAX_VALUE}) {
                check.dueRefused("rods " + rods, SorobanHall::new, ARGUMENT, h -> h.frame(same, rods));
                check.dueRefused("rods " + rods + " as a 5th", TermsEdgeTest::fourFrames, ARGUMENT,
                        h -> h.frame(same, rods));
            }
        }
    }

    /** "numbered from 0 on, from the right". */
    private void rodsFromTheRight() {
        for (int rods = 2; rods <= 8; rods++) {
            SorobanHall hall = Halls.with(Halls.JAPANESE, rods);
            hall.set(0, 0, 1);
            hall.set(0, rods - 1, 2);
            check.due("the first and the last of " + rods, hall.text(0), "2000000".substring(0, rods - 1) + "1");
        }
    }

    /** "JAPANESE (1 bead ABOVE and 4 BELOW), CHINESE (2 ABOVE, 5 BELOW), RUSSIAN (none ABOVE, 10 BELOW)". */
    private void beadsOfEachKind() {
        for (int kind = 0; kind <= 2; kind++) {
            dueMoves(kind, true, Halls.ABOVE[kind]);
            dueMoves(kind, false, Halls.BELOW[kind]);
        }
    }

    /** From each count of that deck each push that is let, and those that are not. */
    private void dueMoves(int kind, boolean isAbove, int size) {
        for (int from = 0; from <= size; from++) {
            int counted = from;
            Halls.Build build = () -> Halls.pushedTo(kind, isAbove ? counted : 0, isAbove ? 0 : counted);
            String what = "kind " + kind + (isAbove ? ", above, " : ", below, ") + from + " and ";
            for (int beads = -size; beads <= size; beads++) {
                int then = from + beads;
                if (beads != 0 && then >= 0 && then <= size) {
                    check.due(what + beads, build.hall().push(0, 0, isAbove, beads), isAbove ? 5 * then : then);
                }
            }
            for (int beads : new int[] {size - from + 1, -from - 1, Integer.MAX_VALUE, Integer.MIN_VALUE}) {
                check.dueRefused(what + beads, build, STATE, h -> h.push(0, 0, isAbove, beads));
            }
            check.dueRefused(what + 0, build, ARGUMENT, h -> h.push(0, 0, isAbove, 0));
        }
    }

    /** "both 0 at first", and all else that is 0 at first. */
    private void bothZeroAtFirst() {
        for (int kind = 0; kind <= 2; kind++) {
            SorobanHall hall = Halls.with(kind, 8);
            for (int rod = 0; rod < 8; rod++) {
                for (int what = 0; what <= 5; what++) {
                    check.due("ofRod(" + rod + ", " + what + ") at first", hall.ofRod(0, rod, what), 0);
                }
            }
            for (int what = 2; what <= 12; what++) {
                check.due("ofFrame(" + what + ") at first", hall.ofFrame(0, what), what == 9 ? 1 : 0);
            }
            check.due("SECONDS at first", hall.seconds(0), 0.0);
            check.due("NUMBER at first", hall.number(0), 0L);
            check.dueRefused("none is kept at first", () -> Halls.with(0, 8), STATE, h -> h.back(0));
        }
    }

    /** "its MOST is the greatest VALUE of its KIND (9, 15, 10)"; "to a VALUE (0 to MOST)". */
    private void mostOfEachKind() {
        for (int kind = 0; kind <= 2; kind++) {
            int same = kind;
            int most = Halls.MOST[kind];
            for (int rod : new int[] {0, 2}) {
                for (int value = 0; value <= most; value++) {
                    SorobanHall hall = Halls.with(kind, 3);
                    hall.set(0, rod, value);
                    check.due("VALUE " + value + " of kind " + kind, hall.ofRod(0, rod, 0), value);
                    check.due("UP and DOWN of it", 5 * hall.ofRod(0, rod, 1) + hall.ofRod(0, rod, 2), value);
                }
                for (int value : new int[] {-1, most + 1, Integer.MIN_VALUE, Integer.MAX_VALUE}) {
                    check.dueRefused("VALUE " + value + " of kind " + kind, () -> Halls.of(same, "123"), ARGUMENT,
                            h -> h.set(0, rod, value));
                }
            }
        }
    }

    /** "The NUMBER of a FRAME (a long): the sum of VALUE times 10^k of each ROD k". */
    private void numberOfRods() {
        for (int kind = 0; kind <= 2; kind++) {
            int most = Halls.MOST[kind];
            SorobanHall all = Halls.with(kind, 8);
            long worth = 1;
            long sum = 0;
            for (int rod = 0; rod < 8; rod++) {
                SorobanHall one = Halls.with(kind, 8);
                one.set(0, rod, most);
                check.due("MOST at rod " + rod, one.number(0), most * worth);
                all.set(0, rod, most);
                sum += most * worth;
                check.due("MOST up to rod " + rod, all.number(0), sum);
                worth *= 10;
            }
            check.due("all of kind " + kind, all.number(0), new long[] {99999999, 166666665, 111111110}[kind]);
            check.due("modulo 11", all.ofFrame(0, 11), new int[] {0, 0, 0}[kind]);
        }
        for (int[] told : new int[][] {{0, 0}, {10, 10}, {11, 0}, {12, 1}, {21, 10}, {22, 0}, {99, 0}, {98, 10}}) {
            SorobanHall hall = Halls.with(Halls.JAPANESE, 2);
            hall.add(0, told[0]);
            check.due(told[0] + " modulo 11", hall.ofFrame(0, 11), told[1]);
        }
    }

    /** "A FRAME is TIDY, if no VALUE is above 9". */
    private void tidyUpToNine() {
        for (int kind = 0; kind <= 2; kind++) {
            for (int rod = 0; rod < 3; rod++) {
                SorobanHall hall = Halls.of(kind, "999");
                check.due("TIDY with 9", hall.ofFrame(0, 9), 1);
                for (int value = 10; value <= Halls.MOST[kind]; value++) {
                    hall.set(0, rod, value);
                    check.due("TIDY with " + value + " at rod " + rod, hall.ofFrame(0, 9), 0);
                }
                hall.set(0, rod, 9);
                check.due("TIDY again", hall.ofFrame(0, 9), 1);
            }
        }
    }

    /** "The HAND ... (0 at first)"; "as the HAND has to go to another ROD, 0.125f times how far that is, once". */
    private void handAtAnotherRod() {
        for (int from = 0; from < 8; from++) {
            for (int to = 0; to < 8; to++) {
                SorobanHall hall = Halls.with(Halls.CHINESE, 8);
                hall.push(0, from, false, 1);
                double first = from * 0.125 + 0.3125;
                String what = "from " + from + " to " + to;
                check.due("SECONDS of the way to " + from, hall.seconds(0), first);
                hall.push(0, to, false, 1);
                double way = Math.abs(to - from) * 0.125;
                check.due("SECONDS by push " + what, hall.seconds(0), first + way + 0.3125);
                check.due("HAND " + what, hall.ofFrame(0, 7), to);
                // 14 by 2 above and 4 below: two PUSHES, the way once.
                hall.set(0, from, 14);
                int already = from == to ? 2 : 1;
                check.due("SECONDS by set back " + what, hall.seconds(0),
                        first + way + 0.3125 + way + 0.375 + 0.25 + (4 - already) * 0.0625);
                check.due("HAND back " + what, hall.ofFrame(0, 7), from);
            }
        }
    }

    /** "0.25f + 0.0625f * beads". */
    private void secondsByBeads() {
        for (int beads = 1; beads <= 10; beads++) {
            SorobanHall hall = Halls.with(Halls.RUSSIAN, 2);
            hall.push(0, 0, false, beads);
            check.due("SECONDS of " + beads + " more", hall.seconds(0), 0.25 + 0.0625 * beads);
            check.due("BEADS of " + beads + " more", hall.ofFrame(0, 3), beads);
            hall.push(0, 0, false, -beads);
            check.due("SECONDS of " + beads + " fewer", hall.seconds(0), 2 * (0.25 + 0.0625 * beads));
            check.due("BEADS of " + beads + " fewer", hall.ofFrame(0, 3), 2 * beads);
            check.due("PUSHES", hall.ofFrame(0, 2), 2);
            check.due("WEAR, of fewer too", hall.ofRod(0, 0, 4), 2 * beads);
        }
    }

    /** A RUSSIAN frame, whose rod 0 has that WEAR (31 to 40) BELOW and 40 less WEAR beads that count. */
    private static SorobanHall wornBelow(int wear) {
        SorobanHall hall = Halls.with(Halls.RUSSIAN, 2);
        hall.push(0, 0, false, 10);
        hall.push(0, 0, false, -10);
        hall.push(0, 0, false, 10);
        hall.push(0, 0, false, 30 - wear);
        return hall;
    }

    /** "WORN: its WEAR ... is 40 or more". */
    private void wornFromForty() {
        for (int wear = 31; wear <= 40; wear++) {
            SorobanHall hall = wornBelow(wear);
            check.due("WEAR", hall.ofRod(0, 0, 4), wear);
            check.due("WORN with " + wear, hall.ofRod(0, 0, 5), wear == 40 ? 1 : 0);
        }
        for (int kind = 0; kind <= 1; kind++) {
            SorobanHall hall = Halls.with(kind, 2);
            for (int k = 1; k <= 42; k++) {
                double before = hall.seconds(0);
                hall.push(0, 0, true, k % 2 == 1 ? 1 : -1);
                check.due("SECONDS of push " + k + " above", hall.seconds(0) - before, k <= 40 ? 0.3125 : 0.625);
                check.due("WEAR of ABOVE after " + k, hall.ofRod(0, 0, 3), k);
                check.due("WORN after " + k, hall.ofRod(0, 0, 5), k >= 40 ? 1 : 0);
            }
        }
        for (int kind = 0; kind <= 2; kind++) {
            SorobanHall hall = Halls.with(kind, 2);
            for (int k = 1; k <= 42; k++) {
                double before = hall.seconds(0);
                hall.push(0, 0, false, k % 2 == 1 ? 1 : -1);
                check.due("SECONDS of push " + k + " below", hall.seconds(0) - before, k <= 40 ? 0.3125 : 0.625);
                check.due("WEAR of BELOW after " + k, hall.ofRod(0, 0, 4), k);
                check.due("WORN after " + k, hall.ofRod(0, 0, 5), k >= 40 ? 1 : 0);
            }
        }
    }

    /** "its WEAR ahead of that PUSH": 9 beads from 39 on are not doubled, 10 from 40 on are. */
    private void wornAheadOfThePush() {
        SorobanHall before = wornBelow(39);
        double then = before.seconds(0);
        check.due("push from 39 on", before.push(0, 0, false, 9), 10);
        check.due("WEAR then", before.ofRod(0, 0, 4), 48);
        check.due("SECONDS from 39 on", before.seconds(0) - then, 0.25 + 9 * 0.0625);
        SorobanHall after = wornBelow(40);
        then = after.seconds(0);
        check.due("push from 40 on", after.push(0, 0, false, 10), 10);
        check.due("SECONDS from 40 on", after.seconds(0) - then, 2 * (0.25 + 10 * 0.0625));
        SorobanHall set = wornBelow(40);
        then = set.seconds(0);
        set.set(0, 0, 1);
        check.due("SECONDS of set from 40 on", set.seconds(0) - then, 0.625);
    }

    /** "its DECK (ABOVE or BELOW of that ROD)": the other DECK, the other ROD and the HAND's way are not doubled. */
    private void wornForEachDeck() {
        SorobanHall hall = Halls.with(Halls.CHINESE, 3);
        for (int k = 0; k < 8; k++) {
            hall.push(0, 1, false, k % 2 == 0 ? 5 : -5);
        }
        check.due("WEAR of BELOW", hall.ofRod(0, 1, 4), 40);
        check.due("WEAR of ABOVE", hall.ofRod(0, 1, 3), 0);
        check.due("WEAR of the next one", hall.ofRod(0, 2, 4) + hall.ofRod(0, 0, 4), 0);
        check.due("one WORN", hall.ofRod(0, 1, 5), 1);
        double then = hall.seconds(0);
        hall.push(0, 1, true, 1);
        check.due("the other DECK", hall.seconds(0) - then, 0.3125);
        hall.push(0, 2, false, 1);
        check.due("the other ROD", hall.seconds(0) - then, 0.3125 + 0.125 + 0.3125);
        hall.push(0, 1, false, 1);
        check.due("the WORN DECK", hall.seconds(0) - then, 0.3125 + 0.125 + 0.3125 + 0.125 + 0.625);
        hall.push(0, 1, true, -1);
        for (int k = 0; k < 18; k++) {
            hall.push(0, 1, true, k % 2 == 0 ? 2 : -2);
        }
        hall.push(0, 1, true, 1);
        check.due("WEAR of ABOVE then", hall.ofRod(0, 1, 3), 39);
        check.due("one WORN still", hall.ofRod(0, 1, 5), 1);
        hall.push(0, 1, true, -1);
        check.due("both WORN", hall.ofRod(0, 1, 5), 2);
        hall.set(0, 1, 0);
        then = hall.seconds(0);
        check.due("PUSHES of both", hall.set(0, 1, 6), 2);
        check.due("SECONDS of both WORN DECKS", hall.seconds(0) - then, 0.625 + 0.625);
    }

    /** "of all UP and DOWN that show that, those with the fewest PUSHES, ... beads moved, ... the greater UP". */
    private void setByFewestPushes() {
        for (int kind = 0; kind <= 2; kind++) {
            for (int up = 0; up <= Halls.ABOVE[kind]; up++) {
                for (int down = 0; down <= Halls.BELOW[kind]; down++) {
                    for (int value = 0; value <= Halls.MOST[kind]; value++) {
                        dueSet(kind, up, down, value);
                    }
                }
            }
        }
    }

    private void dueSet(int kind, int up, int down, int value) {
        int bestRank = Integer.MAX_VALUE;
        int bestUp = -1;
        int pushes = 0;
        int moved = 0;
        for (int u = 0; u <= Halls.ABOVE[kind]; u++) {
            int d = value - 5 * u;
            if (d >= 0 && d <= Halls.BELOW[kind]) {
                int changed = (u == up ? 0 : 1) + (d == down ? 0 : 1);
                int beads = Math.abs(u - up) + Math.abs(d - down);
                int rank = changed * 1000 + beads * 10 + 2 - u;
                if (rank < bestRank) {
                    bestRank = rank;
                    bestUp = u;
                    pushes = changed;
                    moved = beads;
                }
            }
        }
        SorobanHall hall = Halls.pushedTo(kind, up, down);
        int before = hall.ofFrame(0, 3);
        double then = hall.seconds(0);
        String what = " from " + up + "," + down + " to " + value + " of kind " + kind;
        check.due("PUSHES" + what, hall.set(0, 0, value), pushes);
        check.due("UP" + what, hall.ofRod(0, 0, 1), bestUp);
        check.due("DOWN" + what, hall.ofRod(0, 0, 2), value - 5 * bestUp);
        check.due("BEADS" + what, hall.ofFrame(0, 3) - before, moved);
        check.due("SECONDS" + what, hall.seconds(0) - then, 0.25 * pushes + 0.0625 * moved);
    }

    /** "Nothing is done, not even by the HAND, if none has to." */
    private void setOfTheSameValue() {
        for (int kind = 0; kind <= 2; kind++) {
            for (int value = 0; value <= Halls.MOST[kind]; value++) {
                SorobanHall hall = Halls.with(kind, 3);
                hall.set(0, 2, value);
                hall.set(0, 0, 1);
                int hand = hall.ofFrame(0, 7);
                int pushes = hall.ofFrame(0, 2);
                double then = hall.seconds(0);
                int kept = hall.ofFrame(0, 8);
                check.due("set to the same", hall.set(0, 2, value), 0);
                check.due("HAND", hall.ofFrame(0, 7), hand);
                check.due("PUSHES", hall.ofFrame(0, 2), pushes);
                check.due("SECONDS", hall.seconds(0), then);
                check.due("kept also if no bead is moved", hall.ofFrame(0, 8), kept + 1);
            }
        }
    }

    /** "the latest 12 of them for each FRAME (a 13th one lets the oldest go for good)", by each call that is kept. */
    private void twelveKept() {
        Check.Call[] calls = {
            h -> h.push(0, 1, false, 1), h -> h.set(0, 1, 3), h -> h.set(0, 1, 0), h -> h.add(0, 12), h -> h.add(0, 0),
            h -> h.off(0, 1), h -> h.off(0, 0), h -> h.times(0, 2), h -> h.times(0, 1), h -> h.divide(0, 2),
            h -> h.divide(0, 1), h -> h.shift(0, true), h -> h.shift(0, false), h -> h.tidy(0), h -> h.show(0, 0),
            h -> h.clear(0),
        };
        for (int k = 0; k < calls.length; k++) {
            for (int kept = 0; kept <= 14; kept++) {
                SorobanHall hall = Halls.with(Halls.CHINESE, 3);
                for (int j = 1; j <= kept; j++) {
                    hall.set(0, 0, j);
                }
                String what = "call " + k + " after " + kept + " kept";
                check.due("kept ahead of " + what, hall.ofFrame(0, 8), Math.min(kept, 12));
                if (Check.outcome(hall, calls[k]).equals(-2)) {
                    // off() is not let: the frame shows 0, or is not TIDY.
                    check.due("kept by the refused " + what, hall.ofFrame(0, 8), Math.min(kept, 12));
                    continue;
                }
                check.due("kept by " + what, hall.ofFrame(0, 8), Math.min(kept + 1, 12));
                int oldest = Math.max(kept + 1 - 12, 0);
                for (int j = kept; j >= oldest; j--) {
                    check.due("kept still, " + what, hall.back(0), j - oldest);
                    check.due("text back, " + what, hall.text(0), "00" + "0123456789ABCDE".charAt(j));
                }
                check.due("none any more, " + what, Check.outcome(hall, h -> h.back(0)),
                        "throws.IllegalStateException");
            }
        }
    }

    /** "for each FRAME": what one keeps is nothing to the others; "(show(): those of the other one)". */
    private void keptForEachFrame() {
        SorobanHall hall = new SorobanHall();
        for (int frame = 0; frame < 4; frame++) {
            hall.frame(Halls.RUSSIAN, 2);
        }
        for (int k = 1; k <= 13; k++) {
            hall.set(1, 0, k % 11);
            check.due("kept of 1", hall.ofFrame(1, 8), Math.min(k, 12));
            check.due("kept of the others", hall.ofFrame(0, 8) + hall.ofFrame(2, 8) + hall.ofFrame(3, 8), 0);
        }
        hall.show(1, 2);
        check.due("show: kept of the other one", hall.ofFrame(2, 8), 1);
        check.due("show: of that which is shown as before", hall.ofFrame(1, 8), 12);
        check.due("none of 0", Check.outcome(hall, h -> h.back(0)), "throws.IllegalStateException");
        check.due("none of 3", Check.outcome(hall, h -> h.back(3)), "throws.IllegalStateException");
        check.due("back of 2", hall.back(2), 0);
        check.due("texts", hall.text(1) + hall.text(2), "0200");
        check.due("none of 2", Check.outcome(hall, h -> h.back(2)), "throws.IllegalStateException");
        check.due("back of 1", hall.back(1), 11);
        check.due("text of 1", hall.text(1), "01");
    }

    /** "the latest one that is kept, which is kept no more": to and fro, often enough to go round. */
    private void keptRoundAndRound() {
        SorobanHall hall = Halls.with(Halls.CHINESE, 2);
        List<Integer> kept = new ArrayList<>();
        int value = 0;
        int[] sets = {12, 1, 13, 5, 25, 3, 12, 2};
        int[] backs = {12, 1, 2, 4, 12, 1, 6, 9};
        for (int round = 0; round < sets.length; round++) {
            for (int k = 0; k < sets[round]; k++) {
                kept.add(value);
                if (kept.size() > 12) {
                    kept.remove(0);
                }
                value = (value + 7) % 16;
                hall.set(0, 1, value);
            }
            check.due("kept in round " + round, hall.ofFrame(0, 8), kept.size());
            for (int k = 0; k < backs[round]; k++) {
                Object want = "throws.IllegalStateException";
                if (!kept.isEmpty()) {
                    value = kept.remove(kept.size() - 1);
                    want = kept.size();
                }
                check.due("back " + k + " in round " + round, Check.outcome(hall, h -> h.back(0)), want);
                check.due("VALUE then", hall.ofRod(0, 1, 0), value);
            }
        }
    }

    /** "UP and DOWN are as the latest one": not the VALUE alone, which can be shown otherwise too. */
    private void backToUpAndDown() {
        int[][] ways = {{0, 5}, {1, 0}, {1, 5}, {2, 0}};
        for (int[] way : ways) {
            for (int value = 0; value <= 15; value++) {
                SorobanHall hall = Halls.pushedTo(Halls.CHINESE, way[0], way[1]);
                hall.set(0, 0, value);
                hall.back(0);
                check.due("beads back from " + value, Halls.beads(hall, 0), "0,0 " + way[0] + "," + way[1] + " ");
            }
        }
    }

    /** "PUSHES, BEADS, SECONDS, WEAR, the HAND and all that is counted stay." */
    private void stayWhenGoneBack() {
        SorobanHall hall = Halls.of(Halls.CHINESE, "9F9");
        hall.add(0, 101);
        hall.tidy(0);
        hall.off(0, 2);
        hall.set(0, 2, 5);
        int[] before = new int[13];
        for (int what = 0; what <= 7; what++) {
            before[what] = hall.ofFrame(0, what);
            check.due("counted " + what, before[what] > 0, true);
        }
        double seconds = hall.seconds(0);
        int wear = wearOfAll(hall);
        for (int k = hall.ofFrame(0, 8); k > 0; k--) {
            hall.back(0);
            for (int what = 0; what <= 7; what++) {
                check.due("ofFrame " + what + " stays", hall.ofFrame(0, what), before[what]);
            }
            check.due("SECONDS stay", hall.seconds(0), seconds);
            check.due("WEAR stays", wearOfAll(hall), wear);
        }
        check.due("text at last", hall.text(0), "000");
    }

    private static int wearOfAll(SorobanHall hall) {
        int sum = 0;
        for (int rod = 0; rod < hall.ofFrame(0, 1); rod++) {
            sum = sum * 31 + hall.ofRod(0, rod, 3) * 1000 + hall.ofRod(0, rod, 4);
        }
        return sum;
    }

    /** "To GREASE a ROD: WEAR of both its DECKS is 0, SECONDS are 2f more." */
    private void greaseTakesWear() {
        SorobanHall hall = Halls.with(Halls.CHINESE, 8);
        for (int k = 0; k < 20; k++) {
            hall.push(0, 7, true, k % 2 == 0 ? 2 : -2);
            hall.push(0, 7, false, k % 2 == 0 ? 5 : -5);
        }
        hall.push(0, 6, false, 3);
        check.due("both WORN by 20 PUSHES each", hall.ofRod(0, 7, 5), 2);
        double then = hall.seconds(0);
        check.due("grease of no WEAR", hall.grease(0, 0), 0);
        check.due("SECONDS of that, no way of the HAND", hall.seconds(0) - then, 2.0);
        check.due("HAND", hall.ofFrame(0, 7), 6);
        check.due("grease", hall.grease(0, 7), 140);
        check.due("WEAR then", hall.ofRod(0, 7, 3) + hall.ofRod(0, 7, 4), 0);
        check.due("WORN then", hall.ofRod(0, 7, 5), 0);
        check.due("the other ROD's WEAR", hall.ofRod(0, 6, 4), 3);
        check.due("SECONDS of both", hall.seconds(0) - then, 4.0);
        check.due("grease again", hall.grease(0, 7), 0);
        hall.push(0, 7, true, 1);
        check.due("WORN no more", hall.seconds(0) - then, 6.0 + 0.125 + 0.3125);
        check.due("kept, not by grease", hall.ofFrame(0, 8), 12);
        check.due("PUSHES, not by grease", hall.ofFrame(0, 2), 42);
        SorobanHall still = Halls.with(Halls.RUSSIAN, 2);
        still.grease(0, 1);
        check.due("nothing is kept by grease", Check.outcome(still, h -> h.back(0)), "throws.IllegalStateException");
    }

    /** "who strikes it holds no key, and is REFUSED (counted)". */
    private void gong() {
        SorobanHall hall = new SorobanHall();
        check.due("REFUSED at first", hall.many(1), 0);
        for (int k = 1; k <= 5; k++) {
            check.due("strike " + k, hall.strike(), k);
            check.due("REFUSED", hall.many(1), k);
        }
        hall.frame(0, 2);
        for (int extreme : EXTREMES) {
            Check.outcome(hall, h -> h.add(extreme, 1));
        }
        check.due("a call that throws is not REFUSED", hall.many(1), 5);
        check.due("nothing of a FRAME by strike", hall.ofFrame(0, 2) + hall.ofFrame(0, 8), 0);
        check.due("SECONDS by strike", hall.seconds(0), 0.0);
    }
}
