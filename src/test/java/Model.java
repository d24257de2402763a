import java.util.ArrayList;
import java.util.List;

/**
 * The document once more, as plainly as can be and without any thought of speed or of the rules of
 * LANGUAGE.md: by recursion, by copies, by going through all ways. ModelTest compares it with SorobanHall.
 */
final class Model {
    private static final int[][] DECKS = {{1, 4}, {2, 5}, {0, 10}};

    private static final class Rod {
        final int[] counts = new int[2];
        final int[] wear = new int[2];

        int value() {
            return 5 * counts[0] + counts[1];
        }
    }

    private static final class Board {
        int kind;
        List<Rod> rods = new ArrayList<>();
        List<int[]> kept = new ArrayList<>();
        int hand;
        float seconds;
        int pushes;
        int beads;
        int carries;
        int loans;
        int spilled;

        Board copy() {
            Board made = new Board();
            made.kind = kind;
            for (Rod rod : rods) {
                Rod same = new Rod();
                for (int deck = 0; deck < 2; deck++) {
                    same.counts[deck] = rod.counts[deck];
                    same.wear[deck] = rod.wear[deck];
                }
                made.rods.add(same);
            }
            made.hand = hand;
            made.seconds = seconds;
            made.pushes = pushes;
            made.beads = beads;
            made.carries = carries;
            made.loans = loans;
            made.spilled = spilled;
            return made;
        }

        int value(int rod) {
            return rods.get(rod).value();
        }

        long number() {
            long sum = 0;
            long worth = 1;
            for (Rod rod : rods) {
                sum += worth * rod.value();
                worth *= 10;
            }
            return sum;
        }

        void goTo(int rod) {
            if (rod != hand) {
                seconds += 0.125f * (float) Math.abs(rod - hand);
                hand = rod;
            }
        }

        void pushed(int rod, int deck, int change) {
            Rod at = rods.get(rod);
            int moved = Math.abs(change);
            seconds += (0.25f + 0.0625f * (float) moved) * (at.wear[deck] >= 40 ? 2f : 1f);
            at.counts[deck] += change;
            at.wear[deck] += moved;
            pushes += 1;
            beads += moved;
        }

        void setTo(int rod, int value) {
            Rod at = rods.get(rod);
            int[] best = null;
            for (int up = 0; up <= DECKS[kind][0]; up++) {
                for (int down = 0; down <= DECKS[kind][1]; down++) {
                    if (5 * up + down == value) {
                        int a = Math.abs(up - at.counts[0]);
                        int b = Math.abs(down - at.counts[1]);
                        int[] way = {Integer.signum(a) + Integer.signum(b), a + b, -up, up, down};
                        if (best == null || isLess(way, best)) {
                            best = way;
                        }
                    }
                }
            }
            if (best[0] > 0) {
                goTo(rod);
            }
            for (int deck = 0; deck < 2; deck++) {
                if (best[3 + deck] != at.counts[deck]) {
                    pushed(rod, deck, best[3 + deck] - at.counts[deck]);
                }
            }
        }

        private static boolean isLess(int[] one, int[] other) {
            for (int k = 0; k < 3; k++) {
                if (one[k] != other[k]) {
                    return one[k] < other[k];
                }
            }
            return false;
        }

        void brought(int rod, int digit) {
            if (digit == 0) {
                return;
            }
            if (rod >= rods.size()) {
                spilled += digit;
            } else if (value(rod) + digit <= 9) {
                setTo(rod, value(rod) + digit);
            } else {
                setTo(rod, value(rod) + digit - 10);
                carries += 1;
                brought(rod + 1, 1);
            }
        }

        /** A number's digits, as many as there are rods, the ones first. */
        int[] digits(long number) {
            StringBuilder text = new StringBuilder(Long.toString(number)).reverse();
            int[] digits = new int[rods.size()];
            for (int k = 0; k < text.length(); k++) {
                digits[k] = text.charAt(k) - '0';
            }
            return digits;
        }

        boolean fits(long number) {
            return number >= 0 && Long.toString(number).length() <= rods.size();
        }

        void added(int number) {
            int[] digits = digits(number);
            for (int k = rods.size() - 1; k >= 0; k--) {
                brought(k, digits[k]);
            }
        }

        void takenOff(int number) {
            int[] digits = digits(number);
            for (int k = rods.size() - 1; k >= 0; k--) {
                if (digits[k] <= value(k)) {
                    setTo(k, value(k) - digits[k]);
                    continue;
                }
                int lender = k + 1;
                while (value(lender) == 0) {
                    lender++;
                }
                setTo(lender, value(lender) - 1);
                for (int j = lender - 1; j > k; j--) {
                    setTo(j, 9);
                }
                setTo(k, value(k) + 10 - digits[k]);
                loans += 1;
            }
        }

        void keep() {
            int[] counts = new int[2 * rods.size()];
            for (int k = 0; k < counts.length; k++) {
                counts[k] = rods.get(k / 2).counts[k % 2];
            }
            kept.add(counts);
            if (kept.size() > 12) {
                kept.remove(0);
            }
        }

        boolean isTidy() {
            return rods.stream().allMatch(rod -> rod.value() <= 9);
        }

        /** Of all beads on the rods up to that one: {ways that show the rest, fewest beads of these}. */
        long[] ways(int rod, long rest) {
            if (rod < 0) {
                return new long[] {rest == 0 ? 1 : 0, rest == 0 ? 0 : 9999};
            }
            long ways = 0;
            long fewest = 9999;
            long worth = 1;
            for (int k = 0; k < rod; k++) {
                worth *= 10;
            }
            for (int up = 0; up <= DECKS[kind][0]; up++) {
                for (int down = 0; down <= DECKS[kind][1]; down++) {
                    long left = rest - worth * (5 * up + down);
                    // 15 on each rod on the right show less than twice the worth of this one.
                    if (left >= 0 && left < 2 * worth) {
                        long[] others = ways(rod - 1, left);
                        ways += others[0];
                        fewest = Math.min(fewest, up + down + others[1]);
                    }
                }
            }
            return new long[] {ways, fewest};
        }
    }

    private final List<Board> boards = new ArrayList<>();
    private int refused;

    private Board at(int frame) {
        if (frame < 0 || frame >= boards.size()) {
            throw new IndexOutOfBoundsException();
        }
        return boards.get(frame);
    }

    private Board at(int frame, int rod) {
        Board board = at(frame);
        if (rod < 0 || rod >= board.rods.size()) {
            throw new IndexOutOfBoundsException();
        }
        return board;
    }

    private static void need(boolean holds) {
        if (!holds) {
            throw new IllegalArgumentException();
        }
    }

    private static void needState(boolean holds) {
        if (!holds) {
            throw new IllegalStateException();
        }
    }

    int frame(int kind, int rods) {
        need(kind >= 0 && kind <= 2 && rods >= 2 && rods <= 8);
        needState(boards.size() < 4);
        Board board = new Board();
        board.kind = kind;
        for (int k = 0; k < rods; k++) {
            board.rods.add(new Rod());
        }
        boards.add(board);
        return boards.size() - 1;
    }

    int push(int frame, int rod, boolean isAbove, int beads) {
        Board board = at(frame, rod);
        need(beads != 0);
        int deck = isAbove ? 0 : 1;
        long then = (long) board.rods.get(rod).counts[deck] + beads;
        needState(then >= 0 && then <= DECKS[board.kind][deck]);
        board.keep();
        board.goTo(rod);
        board.pushed(rod, deck, beads);
        return board.value(rod);
    }

    int set(int frame, int rod, int value) {
        Board board = at(frame, rod);
        need(value >= 0 && value <= new int[] {9, 15, 10}[board.kind]);
        int before = board.pushes;
        board.keep();
        board.setTo(rod, value);
        return board.pushes - before;
    }

    int add(int frame, int number) {
        Board board = at(frame);
        need(board.fits(number));
        int before = board.pushes;
        board.keep();
        board.added(number);
        return board.pushes - before;
    }

    int off(int frame, int number) {
        Board board = at(frame);
        need(board.fits(number));
        if (!board.isTidy() || number > board.number()) {
            return -2;
        }
        int before = board.pushes;
        board.keep();
        board.takenOff(number);
        return board.pushes - before;
    }

    int times(int frame, int digit) {
        Board board = at(frame);
        need(digit >= 0 && digit <= 9);
        int before = board.spilled;
        board.keep();
        for (int k = board.rods.size() - 1; k >= 0; k--) {
            int product = board.value(k) * digit;
            board.setTo(k, 0);
            board.brought(k, product % 10);
            board.brought(k + 1, product % 100 / 10);
            board.brought(k + 2, product / 100);
        }
        return board.spilled - before;
    }

    int divide(int frame, int digit) {
        Board board = at(frame);
        need(digit >= 1 && digit <= 9);
        board.keep();
        int rest = 0;
        for (int k = board.rods.size() - 1; k >= 0; k--) {
            int together = 10 * rest + board.value(k);
            board.setTo(k, together / digit);
            rest = together - together / digit * digit;
        }
        return rest;
    }

    int shift(int frame, boolean isLeft) {
        Board board = at(frame);
        board.keep();
        int count = board.rods.size();
        int[] values = new int[count];
        for (int k = 0; k < count; k++) {
            values[k] = board.value(k);
        }
        if (isLeft) {
            for (int k = count - 1; k >= 0; k--) {
                board.setTo(k, k == 0 ? 0 : values[k - 1]);
            }
            board.spilled += values[count - 1];
            return values[count - 1];
        }
        for (int k = 0; k < count; k++) {
            board.setTo(k, k == count - 1 ? 0 : values[k + 1]);
        }
        return values[0];
    }

    int tidy(int frame) {
        Board board = at(frame);
        int before = board.carries;
        board.keep();
        for (int k = 0; k < board.rods.size(); k++) {
            if (board.value(k) > 9) {
                board.setTo(k, board.value(k) - 10);
                board.carries += 1;
                board.brought(k + 1, 1);
            }
        }
        return board.carries - before;
    }

    int show(int frame, int other) {
        long number = at(frame).number();
        Board board = at(other);
        if (!board.fits(number)) {
            return -2;
        }
        int before = board.pushes;
        board.keep();
        int[] digits = board.digits(number);
        for (int k = digits.length - 1; k >= 0; k--) {
            board.setTo(k, digits[k]);
        }
        return board.pushes - before;
    }

    int clear(int frame) {
        Board board = at(frame);
        int before = board.pushes;
        board.keep();
        for (int k = board.rods.size() - 1; k >= 0; k--) {
            board.setTo(k, 0);
        }
        return board.pushes - before;
    }

    int back(int frame) {
        Board board = at(frame);
        needState(!board.kept.isEmpty());
        int[] counts = board.kept.remove(board.kept.size() - 1);
        for (int k = 0; k < counts.length; k++) {
            board.rods.get(k / 2).counts[k % 2] = counts[k];
        }
        return board.kept.size();
    }

    int grease(int frame, int rod) {
        Board board = at(frame, rod);
        int[] wear = board.rods.get(rod).wear;
        int before = wear[0] + wear[1];
        wear[0] = 0;
        wear[1] = 0;
        board.seconds += 2f;
        return before;
    }

    int strike() {
        return ++refused;
    }

    long number(int frame) {
        return at(frame).number();
    }

    int ofRod(int frame, int rod, int what) {
        Rod at = at(frame, rod).rods.get(rod);
        need(what >= 0 && what <= 5);
        int worn = (at.wear[0] >= 40 ? 1 : 0) + (at.wear[1] >= 40 ? 1 : 0);
        return new int[] {at.value(), at.counts[0], at.counts[1], at.wear[0], at.wear[1], worn}[what];
    }

    int ofFrame(int frame, int what) {
        Board board = at(frame);
        need(what >= 0 && what <= 12);
        int values = board.rods.stream().mapToInt(Rod::value).sum();
        int beads = board.rods.stream().mapToInt(rod -> rod.counts[0] + rod.counts[1]).sum();
        return new int[] {board.kind, board.rods.size(), board.pushes, board.beads, board.carries, board.loans,
            board.spilled, board.hand, board.kept.size(), board.isTidy() ? 1 : 0, values,
            (int) (board.number() % 11), beads}[what];
    }

    double seconds(int frame) {
        return at(frame).seconds;
    }

    String text(int frame) {
        StringBuilder text = new StringBuilder();
        for (Rod rod : at(frame).rods) {
            text.insert(0, "0123456789ABCDEF".charAt(rod.value()));
        }
        return text.toString();
    }

    int many(int what) {
        need(what >= 0 && what <= 4);
        int pushes = 0;
        int spilled = 0;
        int pairs = 0;
        for (int k = 0; k < boards.size(); k++) {
            pushes += boards.get(k).pushes;
            spilled += boards.get(k).spilled;
            for (int j = 0; j < k; j++) {
                pairs += boards.get(j).number() == boards.get(k).number() ? 1 : 0;
            }
        }
        return new int[] {boards.size(), refused, pushes, spilled, pairs}[what];
    }

    long showings(int frame) {
        Board board = at(frame);
        return board.ways(board.rods.size() - 1, board.number())[0];
    }

    int fewest(int frame) {
        Board board = at(frame);
        return (int) board.ways(board.rods.size() - 1, board.number())[1];
    }

    int would(int frame, int number, int what) {
        Board board = at(frame);
        need(board.fits(number) && what >= 0 && what <= 3);
        Board then = board.copy();
        then.added(number);
        return new int[] {then.pushes - board.pushes, then.beads - board.beads, then.carries - board.carries,
            then.spilled - board.spilled}[what];
    }

    double wouldTake(int frame, int number) {
        Board board = at(frame);
        need(board.fits(number));
        Board then = board.copy();
        then.added(number);
        return (double) then.seconds - (double) board.seconds;
    }

    int quicker(int one, int other, int number) {
        Board first = at(one);
        Board second = at(other);
        need(number >= 0);
        if (!first.fits(number) || !second.fits(number)) {
            return -1;
        }
        int low = Math.min(one, other);
        int high = Math.max(one, other);
        return wouldTake(high, number) < wouldTake(low, number) ? high : low;
    }

    int hardest(int frame, int rod) {
        Board board = at(frame, rod);
        int best = 9;
        int most = 0;
        for (int digit = 9; digit >= 1; digit--) {
            Board then = board.copy();
            then.brought(rod, digit);
            if (then.pushes - board.pushes >= most) {
                most = then.pushes - board.pushes;
                best = digit;
            }
        }
        return best;
    }

    long digest() {
        List<Long> told = new ArrayList<>();
        for (int what = 0; what <= 4; what++) {
            told.add((long) many(what));
        }
        for (int f = 0; f < boards.size(); f++) {
            for (int what = 0; what <= 12; what++) {
                told.add((long) ofFrame(f, what));
            }
            told.add(number(f));
            told.add((long) (16 * seconds(f)));
            told.add(showings(f));
            told.add((long) fewest(f));
            for (int what = 0; what <= 3; what++) {
                told.add((long) would(f, 7, what));
            }
            told.add((long) (16 * wouldTake(f, 7)));
            for (int rod = 0; rod < boards.get(f).rods.size(); rod++) {
                for (int what = 0; what <= 5; what++) {
                    told.add((long) ofRod(f, rod, what));
                }
                told.add((long) hardest(f, rod));
            }
        }
        if (!boards.isEmpty()) {
            told.add((long) quicker(0, boards.size() - 1, 25));
        }
        long d = 58320;
        for (long v : told) {
            d = d * 31 + v;
        }
        return d;
    }
}
