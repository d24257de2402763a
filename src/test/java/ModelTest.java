/** All calls, in long runs of calls drawn by a fixed rule, against the Model. */
public final class ModelTest {
    private static final int RUNS = 300;
    private static final int CALLS = 256;
    private static final int[] ODD = {-1, Integer.MIN_VALUE, Integer.MAX_VALUE, 4, 8, 9, 10, 16, 100, 100000000};

    private final Check check = new Check();
    private long drawn;
    private SorobanHall hall;
    private Model model;

    private interface Call {
        Object answer();
    }

    public static void main(String[] args) {
        ModelTest test = new ModelTest();
        for (int run = 0; run < RUNS; run++) {
            test.run(run);
        }
        test.check.end("ModelTest");
    }

    private int draw(int end) {
        drawn = drawn * 6364136223846793005L + 1442695040888963407L;
        return (int) Long.remainderUnsigned(drawn >>> 33, end);
    }

    /** Mostly 0 to end - 1, now and then something else. */
    private int drawArgument(int end) {
        return draw(40) == 0 ? ODD[draw(ODD.length)] : draw(end);
    }

    private int drawNumber() {
        int end = 1;
        for (int digits = draw(9); digits > 0; digits--) {
            end *= 10;
        }
        return drawArgument(Math.max(end, 10));
    }

    private void run(int run) {
        drawn = run * 7919L;
        hall = new SorobanHall();
        model = new Model();
        // Two calls of digest() a round stay below the 512 calls of an object.
        for (int call = 0; call < CALLS; call++) {
            if (call < 4 || draw(60) == 0) {
                makeFrame(run, call);
            } else if (draw(3) == 0) {
                ask(run, call);
            } else {
                reckon(run, call);
            }
            compare("run " + run + ", call " + call + ", digest()", hall.digest(), model.digest());
        }
    }

    private void makeFrame(int run, int call) {
        int kind = drawArgument(3);
        int rods = drawArgument(7) + 2;
        due(run, call, "frame(" + kind + ", " + rods + ")", () -> hall.frame(kind, rods),
                () -> model.frame(kind, rods));
    }

    private void reckon(int run, int call) {
        int f = drawArgument(4);
        int g = drawArgument(4);
        int rod = drawArgument(8);
        int digit = drawArgument(10);
        int value = drawArgument(16);
        int beads = draw(40) == 0 ? ODD[draw(ODD.length)] : draw(21) - 10;
        int n = drawNumber();
        boolean flag = draw(2) == 0;
        String told = "(" + f + ", " + g + ", " + rod + ", " + digit + ", " + value + ", " + beads + ", " + n + ", "
                + flag + ")";
        switch (draw(14)) {
            case 0: case 1:
                due(run, call, "push" + told, () -> hall.push(f, rod, flag, beads),
                        () -> model.push(f, rod, flag, beads));
                break;
            case 2: case 3:
                due(run, call, "set" + told, () -> hall.set(f, rod, value), () -> model.set(f, rod, value));
                break;
            case 4: due(run, call, "add" + told, () -> hall.add(f, n), () -> model.add(f, n)); break;
            case 5: due(run, call, "off" + told, () -> hall.off(f, n), () -> model.off(f, n)); break;
            case 6: due(run, call, "times" + told, () -> hall.times(f, digit), () -> model.times(f, digit)); break;
            case 7: due(run, call, "divide" + told, () -> hall.divide(f, digit), () -> model.divide(f, digit)); break;
            case 8: due(run, call, "shift" + told, () -> hall.shift(f, flag), () -> model.shift(f, flag)); break;
            case 9: due(run, call, "tidy" + told, () -> hall.tidy(f), () -> model.tidy(f)); break;
            case 10: due(run, call, "show" + told, () -> hall.show(f, g), () -> model.show(f, g)); break;
            case 11: reckonSeldom(run, call, f, rod, told); break;
            default: due(run, call, "back" + told, () -> hall.back(f), () -> model.back(f)); break;
        }
    }

    private void reckonSeldom(int run, int call, int f, int rod, String told) {
        switch (draw(4)) {
            case 0: due(run, call, "clear" + told, () -> hall.clear(f), () -> model.clear(f)); break;
            case 1: due(run, call, "strike" + told, () -> hall.strike(), () -> model.strike()); break;
            default: due(run, call, "grease" + told, () -> hall.grease(f, rod), () -> model.grease(f, rod)); break;
        }
    }

    private void ask(int run, int call) {
        int f = drawArgument(4);
        int g = drawArgument(4);
        int rod = drawArgument(8);
        int what = draw(15) - 1;
        int few = draw(6) - 1;
        int n = drawNumber();
        String told = "(" + f + ", " + g + ", " + rod + ", " + what + ", " + few + ", " + n + ")";
        switch (draw(12)) {
            case 0: due(run, call, "number" + told, () -> hall.number(f), () -> model.number(f)); break;
            case 1:
                due(run, call, "ofRod" + told, () -> hall.ofRod(f, rod, few), () -> model.ofRod(f, rod, few));
                break;
            case 2: due(run, call, "ofFrame" + told, () -> hall.ofFrame(f, what), () -> model.ofFrame(f, what)); break;
            case 3: due(run, call, "seconds" + told, () -> hall.seconds(f), () -> model.seconds(f)); break;
            case 4: due(run, call, "text" + told, () -> hall.text(f), () -> model.text(f)); break;
            case 5: due(run, call, "many" + told, () -> hall.many(few), () -> model.many(few)); break;
            case 6: due(run, call, "showings" + told, () -> hall.showings(f), () -> model.showings(f)); break;
            case 7: due(run, call, "fewest" + told, () -> hall.fewest(f), () -> model.fewest(f)); break;
            case 8: due(run, call, "would" + told, () -> hall.would(f, n, few), () -> model.would(f, n, few)); break;
            case 9: due(run, call, "wouldTake" + told, () -> hall.wouldTake(f, n), () -> model.wouldTake(f, n)); break;
            case 10: due(run, call, "quicker" + told, () -> hall.quicker(f, g, n), () -> model.quicker(f, g, n)); break;
            default: due(run, call, "hardest" + told, () -> hall.hardest(f, rod), () -> model.hardest(f, rod)); break;
        }
    }

    private void due(int run, int call, String told, Call asked, Call want) {
        compare("run " + run + ", call " + call + ", " + told, outcome(asked), outcome(want));
    }

    private void compare(String what, Object got, Object want) {
        check.due(what, got, want);
    }

    private static Object outcome(Call call) {
        try {
            return call.answer();
        } catch (RuntimeException e) {
            return "throws." + e.getClass().getSimpleName();
        }
    }
}
