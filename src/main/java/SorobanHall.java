/** A hall in which is reckoned with beads on rods. */
public final class SorobanHall {
    private static final int NONE = -1;
    private static final int NOT_DONE = -2;
    private static final int MOST_FRAMES = 4;
    private static final int FEWEST_RODS = 2;
    private static final int MOST_RODS = 8;
    private static final int MOST_KEPT = 12;
    private static final int WORN_FROM = 40;
    private static final int MANY_WHATS = 5;
    private static final int ROD_WHATS = 6;
    private static final int FRAME_WHATS = 13;
    private static final int WOULD_WHATS = 4;
    private static final long DIGEST_START = 58320;
    private static final int[] BEADS_ABOVE = {1, 2, 0};
    private static final int[] BEADS_BELOW = {4, 5, 10};

    private final Frame[] frames = new Frame[MOST_FRAMES];
    // What would be is tried out on this one, so that no call has to make a copy.
    private final Frame trial = new Frame(0, FEWEST_RODS);
    private int frameCount;
    private int refused;

    public SorobanHall() {
    }

    // ---- frames and pushes

    public int frame(int kind, int rods) throws IllegalArgumentException, IllegalStateException {
        if (kind < 0 || kind >= BEADS_ABOVE.length || rods < FEWEST_RODS || rods > MOST_RODS) {
            throw new IllegalArgumentException("no such kind, or not 2 to 8 rods");
        }
        if (frameCount < 0 || frameCount >= frames.length) {
            throw new IllegalStateException("there are 4 frames");
        }
        int made = frameCount;
        frames[made] = new Frame(kind, rods);
        frameCount = made + 1;
        return made;
    }

    public int push(int frame, int rod, boolean isAbove, int beads)
            throws IndexOutOfBoundsException, IllegalArgumentException, IllegalStateException {
        Frame found = foundFrameWithRod(frame, rod);
        if (beads == 0) {
            throw new IllegalArgumentException("no beads");
        }
        Deck deck = isAbove ? found.above : found.below;
        if (!deck.canMove(rod, beads)) {
            throw new IllegalStateException("not so many beads to move that way");
        }
        found.keepBeads();
        found.moveHand(rod);
        found.pushDeck(deck, rod, beads);
        return found.valueAt(rod);
    }

    public int set(int frame, int rod, int value) throws IndexOutOfBoundsException, IllegalArgumentException {
        Frame found = foundFrameWithRod(frame, rod);
        if (value < 0 || value > found.mostOfRod()) {
            throw new IllegalArgumentException("no such value on a rod");
        }
        int before = found.pushes;
        found.keepBeads();
        found.setRod(rod, value);
        return found.pushes - before;
    }

    // ---- reckoning

    public int add(int frame, int number) throws IndexOutOfBoundsException, IllegalArgumentException {
        Frame found = foundFrame(frame);
        refuseUnlessFits(found, number);
        int before = found.pushes;
        found.keepBeads();
        found.bringNumber(number);
        return found.pushes - before;
    }

    public int off(int frame, int number) throws IndexOutOfBoundsException, IllegalArgumentException {
        Frame found = foundFrame(frame);
        refuseUnlessFits(found, number);
        if (!found.isTidy() || number > found.shownNumber()) {
            return NOT_DONE;
        }
        int before = found.pushes;
        found.keepBeads();
        found.takeNumber(number);
        return found.pushes - before;
    }

    public int times(int frame, int digit) throws IndexOutOfBoundsException, IllegalArgumentException {
        Frame found = foundFrame(frame);
        if (digit < 0 || digit > 9) {
            throw new IllegalArgumentException("not a digit");
        }
        int before = found.spilled;
        found.keepBeads();
        found.multiply(digit);
        return found.spilled - before;
    }

    public int divide(int frame, int digit) throws IndexOutOfBoundsException, IllegalArgumentException {
        Frame found = foundFrame(frame);
        if (digit < 1 || digit > 9) {
            throw new IllegalArgumentException("not a digit above 0");
        }
        found.keepBeads();
        return found.splitBy(digit);
    }

    public int shift(int frame, boolean isLeft) throws IndexOutOfBoundsException {
        Frame found = foundFrame(frame);
        found.keepBeads();
        return isLeft ? found.shiftLeft() : found.shiftRight();
    }

    public int tidy(int frame) throws IndexOutOfBoundsException {
        Frame found = foundFrame(frame);
        int before = found.carries;
        found.keepBeads();
        found.tidyRods();
        return found.carries - before;
    }

    public int show(int frame, int other) throws IndexOutOfBoundsException {
        long number = foundFrame(frame).shownNumber();
        Frame changed = foundFrame(other);
        if (!changed.hasRodsFor(number)) {
            return NOT_DONE;
        }
        int before = changed.pushes;
        changed.keepBeads();
        changed.setRods(number);
        return changed.pushes - before;
    }

    public int clear(int frame) throws IndexOutOfBoundsException {
        Frame found = foundFrame(frame);
        int before = found.pushes;
        found.keepBeads();
        found.setRods(0);
        return found.pushes - before;
    }

    public int back(int frame) throws IndexOutOfBoundsException, IllegalStateException {
        Frame found = foundFrame(frame);
        if (found.keptCount <= 0) {
            throw new IllegalStateException("none is kept");
        }
        found.restoreBeads();
        return found.keptCount;
    }

    public int grease(int frame, int rod) throws IndexOutOfBoundsException {
        Frame found = foundFrameWithRod(frame, rod);
        return found.greaseRod(rod);
    }

    public int strike() {
        refused++;
        return refused;
    }

    // ---- what is asked

    public long number(int frame) throws IndexOutOfBoundsException {
        Frame found = foundFrame(frame);
        return found.shownNumber();
    }

    public int ofRod(int frame, int rod, int what) throws IndexOutOfBoundsException, IllegalArgumentException {
        Frame found = foundFrameWithRod(frame, rod);
        refuseUnlessBelow(what, ROD_WHATS);
        return found.factOfRod(rod, what);
    }

    public int ofFrame(int frame, int what) throws IndexOutOfBoundsException, IllegalArgumentException {
        Frame found = foundFrame(frame);
        refuseUnlessBelow(what, FRAME_WHATS);
        return found.factOfFrame(what);
    }

    public double seconds(int frame) throws IndexOutOfBoundsException {
        Frame found = foundFrame(frame);
        return (double) found.seconds;
    }

    public String text(int frame) throws IndexOutOfBoundsException {
        Frame found = foundFrame(frame);
        return found.signs();
    }

    public int many(int what) throws IllegalArgumentException {
        refuseUnlessBelow(what, MANY_WHATS);
        return factOfHall(what);
    }

    // ---- what would be (nothing is changed)

    public long showings(int frame) throws IndexOutOfBoundsException {
        Frame found = foundFrame(frame);
        return found.waysToShow();
    }

    public int fewest(int frame) throws IndexOutOfBoundsException {
        Frame found = foundFrame(frame);
        return found.fewestBeadsToShow();
    }

    public int would(int frame, int number, int what) throws IndexOutOfBoundsException, IllegalArgumentException {
        Frame found = foundFrame(frame);
        refuseUnlessFits(found, number);
        refuseUnlessBelow(what, WOULD_WHATS);
        return countByAdding(found, number, what);
    }

    public double wouldTake(int frame, int number) throws IndexOutOfBoundsException, IllegalArgumentException {
        Frame found = foundFrame(frame);
        refuseUnlessFits(found, number);
        return secondsByAdding(found, number);
    }

    public int quicker(int one, int other, int number) throws IndexOutOfBoundsException, IllegalArgumentException {
        Frame first = foundFrame(one);
        Frame second = foundFrame(other);
        if (number < 0) {
            throw new IllegalArgumentException("a number below 0");
        }
        if (!first.hasRodsFor(number) || !second.hasRodsFor(number)) {
            return NONE;
        }
        return quickerToAdd(one, other, number);
    }

    public int hardest(int frame, int rod) throws IndexOutOfBoundsException {
        Frame found = foundFrameWithRod(frame, rod);
        return hardestDigit(found, rod);
    }

    public long digest() {
        long sum = DIGEST_START;
        for (int what = 0; what < MANY_WHATS; what++) {
            sum = mixed(sum, factOfHall(what));
        }
        for (int k = 0; k < frames.length; k++) {
            Frame each = frames[k];
            if (each != null) {
                sum = mixedWithFrame(sum, each);
            }
        }
        if (frameCount > 0) {
            sum = mixed(sum, quickerToAdd(0, frameCount - 1, 25));
        }
        return sum;
    }

    // ---- the hall's own helpers

    /** The frame of that number, or null if there is none. */
    private Frame frameAt(int frame) {
        return frame >= 0 && frame < frames.length ? frames[frame] : null;
    }

    private Frame foundFrame(int frame) {
        Frame found = frameAt(frame);
        if (found == null) {
            throw new IndexOutOfBoundsException("no such frame");
        }
        return found;
    }

    private Frame foundFrameWithRod(int frame, int rod) {
        Frame found = foundFrame(frame);
        if (!found.hasRod(rod)) {
            throw new IndexOutOfBoundsException("no such rod");
        }
        return found;
    }

    private static void refuseUnlessFits(Frame frame, int number) {
        if (!frame.hasRodsFor(number)) {
            throw new IllegalArgumentException("a number below 0, or with more digits than there are rods");
        }
    }

    private static void refuseUnlessBelow(int what, int end) {
        if (what < 0 || what >= end) {
            throw new IllegalArgumentException("no such what");
        }
    }

    private int factOfHall(int what) {
        switch (what) {
            case 0: return frameCount;
            case 1: return refused;
            case 2: return pushesOfAll();
            case 3: return spilledByAll();
            default: return pairsThatShowTheSame();
        }
    }

    private int pushesOfAll() {
        int sum = 0;
        for (int k = 0; k < frames.length; k++) {
            Frame each = frames[k];
            if (each != null) {
                sum += each.pushes;
            }
        }
        return sum;
    }

    private int spilledByAll() {
        int sum = 0;
        for (int k = 0; k < frames.length; k++) {
            Frame each = frames[k];
            if (each != null) {
                sum += each.spilled;
            }
        }
        return sum;
    }

    private int pairsThatShowTheSame() {
        int pairs = 0;
        for (int k = 0; k < frames.length; k++) {
            for (int j = k + 1; j < frames.length; j++) {
                Frame one = frames[k];
                Frame other = frames[j];
                if (one != null && other != null && one.shownNumber() == other.shownNumber()) {
                    pairs++;
                }
            }
        }
        return pairs;
    }

    private int countByAdding(Frame frame, int number, int what) {
        trial.copyFrom(frame);
        trial.bringNumber(number);
        switch (what) {
            case 0: return trial.pushes - frame.pushes;
            case 1: return trial.beads - frame.beads;
            case 2: return trial.carries - frame.carries;
            default: return trial.spilled - frame.spilled;
        }
    }

    private double secondsByAdding(Frame frame, int number) {
        trial.copyFrom(frame);
        trial.bringNumber(number);
        return (double) trial.seconds - (double) frame.seconds;
    }

    private int quickerToAdd(int one, int other, int number) {
        Frame first = frameAt(one);
        Frame second = frameAt(other);
        if (first == null || second == null) {
            return NONE;
        }
        double byFirst = secondsByAdding(first, number);
        double bySecond = secondsByAdding(second, number);
        if (byFirst == bySecond) {
            return Math.min(one, other);
        }
        return byFirst < bySecond ? one : other;
    }

    private int hardestDigit(Frame frame, int rod) {
        int hardest = NONE;
        int most = NONE;
        for (int digit = 1; digit <= 9; digit++) {
            trial.copyFrom(frame);
            trial.bring(rod, digit);
            int took = trial.pushes - frame.pushes;
            if (took > most) {
                most = took;
                hardest = digit;
            }
        }
        return hardest;
    }

    private static long mixed(long sum, long v) {
        return sum * 31 + v;
    }

    private long mixedWithFrame(long start, Frame frame) {
        long sum = start;
        for (int what = 0; what < FRAME_WHATS; what++) {
            sum = mixed(sum, frame.factOfFrame(what));
        }
        sum = mixed(sum, frame.shownNumber());
        sum = mixed(sum, (long) (16.0 * (double) frame.seconds));
        sum = mixed(sum, frame.waysToShow());
        sum = mixed(sum, frame.fewestBeadsToShow());
        for (int what = 0; what < WOULD_WHATS; what++) {
            sum = mixed(sum, countByAdding(frame, 7, what));
        }
        sum = mixed(sum, (long) (16.0 * secondsByAdding(frame, 7)));
        for (int rod = 0; rod < frame.rods; rod++) {
            for (int what = 0; what < ROD_WHATS; what++) {
                sum = mixed(sum, frame.factOfRod(rod, what));
            }
            sum = mixed(sum, hardestDigit(frame, rod));
        }
        return sum;
    }

    /** The beads above, or those below, on all rods of one frame. */
    private static final class Deck {
        int size;
        final int[] counting = new int[MOST_RODS];
        final int[] wear = new int[MOST_RODS];
        final int[] kept = new int[MOST_RODS * MOST_KEPT];

        Deck(int size) {
            this.size = size;
        }

        int countAt(int rod) {
            return rod >= 0 && rod < counting.length ? counting[rod] : 0;
        }

        int wearAt(int rod) {
            return rod >= 0 && rod < wear.length ? wear[rod] : 0;
        }

        boolean isWornAt(int rod) {
            return wearAt(rod) >= WORN_FROM;
        }

        boolean canMove(int rod, int change) {
            // As a long: the greatest and the smallest int must not wrap around here.
            long then = (long) countAt(rod) + (long) change;
            return then >= 0 && then <= size;
        }

        void freshen(int rod) {
            if (rod >= 0 && rod < wear.length) {
                wear[rod] = 0;
            }
        }

        void keepIn(int slot) {
            int from = slot * MOST_RODS;
            for (int k = 0; k < counting.length; k++) {
                if (from + k >= 0 && from + k < kept.length) {
                    kept[from + k] = counting[k];
                }
            }
        }

        void restoreFrom(int slot) {
            int from = slot * MOST_RODS;
            for (int k = 0; k < counting.length; k++) {
                if (from + k >= 0 && from + k < kept.length) {
                    counting[k] = kept[from + k];
                }
            }
        }

        /** Takes over beads and wear; what is kept is not needed to try a call out. */
        void copyFrom(Deck other) {
            size = other.size;
            for (int k = 0; k < counting.length; k++) {
                counting[k] = other.countAt(k);
            }
            for (int k = 0; k < wear.length; k++) {
                wear[k] = other.wearAt(k);
            }
        }
    }

    /** A frame: its rods, its hand and all that is counted of it. */
    private static final class Frame {
        // No way to show a value needs so many beads; small enough that sums stay far from wrapping.
        private static final int NO_WAY = 1000;

        int kind;
        int rods;
        final Deck above;
        final Deck below;
        int hand;
        float seconds;
        int pushes;
        int beads;
        int carries;
        int loans;
        int spilled;
        int keptCount;
        // Where the next state is kept; the slots go round, so that a 13th one overwrites the oldest.
        int nextSlot;

        Frame(int kind, int rods) {
            this.kind = kind;
            this.rods = rods;
            above = new Deck(kind >= 0 && kind < BEADS_ABOVE.length ? BEADS_ABOVE[kind] : 0);
            below = new Deck(kind >= 0 && kind < BEADS_BELOW.length ? BEADS_BELOW[kind] : 0);
        }

        void copyFrom(Frame other) {
            kind = other.kind;
            rods = other.rods;
            above.copyFrom(other.above);
            below.copyFrom(other.below);
            hand = other.hand;
            seconds = other.seconds;
            pushes = other.pushes;
            beads = other.beads;
            carries = other.carries;
            loans = other.loans;
            spilled = other.spilled;
        }

        boolean hasRod(int rod) {
            return rod >= 0 && rod < rods;
        }

        boolean hasRodsFor(long number) {
            long end = 1;
            for (int k = 0; k < rods; k++) {
                end *= 10;
            }
            return number >= 0 && number < end;
        }

        int valueAt(int rod) {
            return 5 * above.countAt(rod) + below.countAt(rod);
        }

        int mostOfRod() {
            return 5 * above.size + below.size;
        }

        long shownNumber() {
            long number = 0;
            for (int rod = rods - 1; rod >= 0; rod--) {
                number = number * 10 + valueAt(rod);
            }
            return number;
        }

        boolean isTidy() {
            for (int rod = 0; rod < rods; rod++) {
                if (valueAt(rod) > 9) {
                    return false;
                }
            }
            return true;
        }

        // -- pushes

        void moveHand(int rod) {
            int far = Math.abs(rod - hand);
            if (far > 0) {
                seconds = seconds + 0.125f * (float) far;
                hand = rod;
            }
        }

        void pushDeck(Deck deck, int rod, int change) {
            if (rod < 0 || rod >= deck.counting.length || rod >= deck.wear.length) {
                return;
            }
            int moved = Math.abs(change);
            float took = 0.25f + 0.0625f * (float) moved;
            if (deck.wear[rod] >= WORN_FROM) {
                took = took * 2f;
            }
            seconds = seconds + took;
            deck.counting[rod] += change;
            deck.wear[rod] += moved;
            pushes++;
            beads += moved;
        }

        void setRod(int rod, int value) {
            int wasUp = above.countAt(rod);
            int wasDown = below.countAt(rod);
            int up = bestUp(value, wasUp, wasDown);
            if (up == NONE) {
                return;
            }
            int upChange = up - wasUp;
            int downChange = value - 5 * up - wasDown;
            if (upChange == 0 && downChange == 0) {
                return;
            }
            moveHand(rod);
            if (upChange != 0) {
                pushDeck(above, rod, upChange);
            }
            if (downChange != 0) {
                pushDeck(below, rod, downChange);
            }
        }

        /** From the greater UP on, so that of equal ways the greater one stays. */
        private int bestUp(int value, int wasUp, int wasDown) {
            int best = NONE;
            int bestPushes = 0;
            int bestMoved = 0;
            for (int up = above.size; up >= 0; up--) {
                int down = value - 5 * up;
                if (down >= 0 && down <= below.size) {
                    int upMoved = Math.abs(up - wasUp);
                    int downMoved = Math.abs(down - wasDown);
                    int needed = (upMoved > 0 ? 1 : 0) + (downMoved > 0 ? 1 : 0);
                    int moved = upMoved + downMoved;
                    if (best == NONE || needed < bestPushes || needed == bestPushes && moved < bestMoved) {
                        best = up;
                        bestPushes = needed;
                        bestMoved = moved;
                    }
                }
            }
            return best;
        }

        /** Sets the rods, from the left on, to the digits of a number. */
        void setRods(long number) {
            for (int rod = rods - 1; rod >= 0; rod--) {
                setRod(rod, digitAt(number, rod));
            }
        }

        // -- reckoning

        private static int digitAt(long number, int place) {
            long rest = number;
            for (int k = 0; k < place; k++) {
                rest = rest / 10;
            }
            return (int) (rest % 10);
        }

        void bring(int rod, int digit) {
            int brought = digit;
            for (int k = rod; k < rods && brought > 0; k++) {
                int sum = valueAt(k) + brought;
                if (sum <= 9) {
                    setRod(k, sum);
                    brought = 0;
                } else {
                    setRod(k, sum - 10);
                    carries++;
                    brought = 1;
                }
            }
            spilled += brought;
        }

        void bringNumber(long number) {
            for (int rod = rods - 1; rod >= 0; rod--) {
                bring(rod, digitAt(number, rod));
            }
        }

        void takeNumber(long number) {
            for (int rod = rods - 1; rod >= 0; rod--) {
                takeDigit(rod, digitAt(number, rod));
            }
        }

        private void takeDigit(int rod, int digit) {
            int value = valueAt(rod);
            if (digit <= value) {
                setRod(rod, value - digit);
                return;
            }
            int lender = rod + 1;
            while (lender < rods && valueAt(lender) == 0) {
                lender++;
            }
            setRod(lender, valueAt(lender) - 1);
            for (int k = lender - 1; k > rod; k--) {
                setRod(k, 9);
            }
            setRod(rod, value + 10 - digit);
            loans++;
        }

        void multiply(int digit) {
            for (int rod = rods - 1; rod >= 0; rod--) {
                int product = valueAt(rod) * digit;
                setRod(rod, 0);
                bring(rod, product % 10);
                bring(rod + 1, product / 10 % 10);
                bring(rod + 2, product / 100);
            }
        }

        int splitBy(int digit) {
            if (digit <= 0) {
                return 0;
            }
            int rest = 0;
            for (int rod = rods - 1; rod >= 0; rod--) {
                int dividend = 10 * rest + valueAt(rod);
                setRod(rod, dividend / digit);
                rest = dividend % digit;
            }
            return rest;
        }

        int shiftLeft() {
            int lost = valueAt(rods - 1);
            for (int rod = rods - 1; rod > 0; rod--) {
                setRod(rod, valueAt(rod - 1));
            }
            setRod(0, 0);
            spilled += lost;
            return lost;
        }

        int shiftRight() {
            int lost = valueAt(0);
            for (int rod = 0; rod < rods - 1; rod++) {
                setRod(rod, valueAt(rod + 1));
            }
            setRod(rods - 1, 0);
            return lost;
        }

        void tidyRods() {
            for (int rod = 0; rod < rods; rod++) {
                int value = valueAt(rod);
                if (value > 9) {
                    setRod(rod, value - 10);
                    carries++;
                    bring(rod + 1, 1);
                }
            }
        }

        // -- taken back

        void keepBeads() {
            above.keepIn(nextSlot);
            below.keepIn(nextSlot);
            nextSlot = (nextSlot + 1) % MOST_KEPT;
            if (keptCount < MOST_KEPT) {
                keptCount++;
            }
        }

        void restoreBeads() {
            nextSlot = (nextSlot + MOST_KEPT - 1) % MOST_KEPT;
            above.restoreFrom(nextSlot);
            below.restoreFrom(nextSlot);
            keptCount--;
        }

        int greaseRod(int rod) {
            int worn = above.wearAt(rod) + below.wearAt(rod);
            above.freshen(rod);
            below.freshen(rod);
            seconds = seconds + 2f;
            return worn;
        }

        // -- what is asked

        int factOfRod(int rod, int what) {
            switch (what) {
                case 0: return valueAt(rod);
                case 1: return above.countAt(rod);
                case 2: return below.countAt(rod);
                case 3: return above.wearAt(rod);
                case 4: return below.wearAt(rod);
                default: return (above.isWornAt(rod) ? 1 : 0) + (below.isWornAt(rod) ? 1 : 0);
            }
        }

        int factOfFrame(int what) {
            switch (what) {
                case 0: return kind;
                case 1: return rods;
                case 2: return pushes;
                case 3: return beads;
                case 4: return carries;
                case 5: return loans;
                case 6: return spilled;
                case 7: return hand;
                case 8: return keptCount;
                case 9: return isTidy() ? 1 : 0;
                case 10: return sumOfValues();
                case 11: return (int) (shownNumber() % 11);
                default: return beadsThatCount();
            }
        }

        private int sumOfValues() {
            int sum = 0;
            for (int rod = 0; rod < rods; rod++) {
                sum += valueAt(rod);
            }
            return sum;
        }

        private int beadsThatCount() {
            int sum = 0;
            for (int rod = 0; rod < rods; rod++) {
                sum += above.countAt(rod) + below.countAt(rod);
            }
            return sum;
        }

        String signs() {
            StringBuilder text = new StringBuilder();
            for (int rod = rods - 1; rod >= 0; rod--) {
                int value = valueAt(rod);
                text.append((char) (value <= 9 ? '0' + value : 'A' + value - 10));
            }
            return text.toString();
        }

        // -- what would be

        /**
         * Rod by rod from the right. A value of up to 15 reaches over into the next place by 1 at the
         * most, so two counts are enough: of the ways that show the digits so far just so, and of those
         * that reach over.
         */
        long waysToShow() {
            long just = 1;
            long over = 0;
            long rest = shownNumber();
            for (int rod = 0; rod < rods; rod++) {
                int digit = (int) (rest % 10);
                long nextJust = just * waysOfRod(digit) + over * waysOfRod(digit - 1);
                long nextOver = just * waysOfRod(digit + 10) + over * waysOfRod(digit + 9);
                just = nextJust;
                over = nextOver;
                rest = rest / 10;
            }
            return rest == 0 ? just : over;
        }

        private int waysOfRod(int value) {
            int ways = 0;
            for (int up = 0; up <= above.size; up++) {
                int down = value - 5 * up;
                if (down >= 0 && down <= below.size) {
                    ways++;
                }
            }
            return ways;
        }

        /** As waysToShow(), with the fewest beads in place of the ways. */
        int fewestBeadsToShow() {
            int just = 0;
            int over = NO_WAY;
            long rest = shownNumber();
            for (int rod = 0; rod < rods; rod++) {
                int digit = (int) (rest % 10);
                int nextJust = Math.min(just + fewestOfRod(digit), over + fewestOfRod(digit - 1));
                int nextOver = Math.min(just + fewestOfRod(digit + 10), over + fewestOfRod(digit + 9));
                just = nextJust;
                over = nextOver;
                rest = rest / 10;
            }
            return rest == 0 ? just : over;
        }

        private int fewestOfRod(int value) {
            int fewest = NO_WAY;
            for (int up = 0; up <= above.size; up++) {
                int down = value - 5 * up;
                if (down >= 0 && down <= below.size) {
                    fewest = Math.min(fewest, up + down);
                }
            }
            return fewest;
        }
    }
}
