/** Makes halls for the tests, and tells all that can be known of one. */
final class Halls {
    static final int JAPANESE = 0;
    static final int CHINESE = 1;
    static final int RUSSIAN = 2;
    static final int[] ABOVE = {1, 2, 0};
    static final int[] BELOW = {4, 5, 10};
    static final int[] MOST = {9, 15, 10};

    /** Makes the same hall each time that it is asked. */
    interface Build {
        SorobanHall hall();
    }

    private Halls() {
    }

    /** A hall with one frame of that kind. */
    static SorobanHall with(int kind, int rods) {
        SorobanHall hall = new SorobanHall();
        hall.frame(kind, rods);
        return hall;
    }

    /** A hall with one frame, whose rods are SET from the left on to the values of the text. */
    static SorobanHall of(int kind, String values) {
        SorobanHall hall = with(kind, values.length());
        for (int k = 0; k < values.length(); k++) {
            hall.set(0, values.length() - 1 - k, Character.digit(values.charAt(k), 16));
        }
        return hall;
    }

    /** A hall with one frame of two rods, the one on the right pushed to that UP and DOWN. */
    static SorobanHall pushedTo(int kind, int up, int down) {
        SorobanHall hall = with(kind, 2);
        if (up > 0) {
            hall.push(0, 0, true, up);
        }
        if (down > 0) {
            hall.push(0, 0, false, down);
        }
        return hall;
    }

    /** UP and DOWN of all rods of a frame, from the left on. */
    static String beads(SorobanHall hall, int frame) {
        StringBuilder text = new StringBuilder();
        for (int rod = hall.ofFrame(frame, 1) - 1; rod >= 0; rod--) {
            text.append(hall.ofRod(frame, rod, 1)).append(',').append(hall.ofRod(frame, rod, 2)).append(' ');
        }
        return text.toString();
    }

    /** The digest as the document tells it, from the other answers. */
    static long digestTold(SorobanHall hall) {
        long d = 58320;
        for (int what = 0; what <= 4; what++) {
            d = d * 31 + hall.many(what);
        }
        for (int f = 0; f < hall.many(0); f++) {
            for (int what = 0; what <= 12; what++) {
                d = d * 31 + hall.ofFrame(f, what);
            }
            d = d * 31 + hall.number(f);
            d = d * 31 + (long) (16 * hall.seconds(f));
            d = d * 31 + hall.showings(f);
            d = d * 31 + hall.fewest(f);
            for (int what = 0; what <= 3; what++) {
                d = d * 31 + hall.would(f, 7, what);
            }
            d = d * 31 + (long) (16 * hall.wouldTake(f, 7));
            for (int rod = 0; rod < hall.ofFrame(f, 1); rod++) {
                for (int what = 0; what <= 5; what++) {
                    d = d * 31 + hall.ofRod(f, rod, what);
                }
                d = d * 31 + hall.hardest(f, rod);
            }
        }
        return hall.many(0) == 0 ? d : d * 31 + hall.quicker(0, hall.many(0) - 1, 25);
    }

    /**
     * All that can be asked after the call, and all that is kept: what back() brings is told too, which
     * digest() does not see. A hall is made anew for each frame, so that none has more than 512 calls.
     */
    static String toldAfter(Build build, Check.Call call) {
        StringBuilder text = new StringBuilder();
        SorobanHall hall = called(build, call);
        int frames = hall.many(0);
        tellAsked(hall, text);
        for (int frame = 0; frame < frames; frame++) {
            tellKept(called(build, call), frame, text);
        }
        return text.toString();
    }

    private static SorobanHall called(Build build, Check.Call call) {
        SorobanHall hall = build.hall();
        Check.outcome(hall, call);
        return hall;
    }

    private static void tellAsked(SorobanHall hall, StringBuilder text) {
        text.append("hall");
        for (int what = 0; what <= 4; what++) {
            text.append(' ').append(hall.many(what));
        }
        for (int frame = 0; frame < hall.many(0); frame++) {
            text.append("\nframe ").append(frame).append(':');
            for (int what = 0; what <= 12; what++) {
                text.append(' ').append(hall.ofFrame(frame, what));
            }
            text.append(' ').append(hall.number(frame)).append(' ').append(hall.seconds(frame));
            text.append(' ').append(hall.text(frame));
            for (int rod = 0; rod < hall.ofFrame(frame, 1); rod++) {
                text.append(" /");
                for (int what = 1; what <= 4; what++) {
                    text.append(' ').append(hall.ofRod(frame, rod, what));
                }
            }
        }
        text.append("\ndigest ").append(hall.digest());
    }

    private static void tellKept(SorobanHall hall, int frame, StringBuilder text) {
        text.append("\nkept of ").append(frame).append(':');
        for (int k = hall.ofFrame(frame, 8); k > 0; k--) {
            text.append(' ').append(hall.back(frame)).append(": ").append(beads(hall, frame));
        }
    }
}
