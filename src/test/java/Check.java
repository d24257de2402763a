/** Compares answers with those that are due, and ends a test with exit code 1 if one was wrong. */
final class Check {
    /** A call on a hall, whose answer or exception is looked at. */
    interface Call {
        Object on(SorobanHall hall);
    }

    private static final Call NO_CALL = hall -> 0;

    private int wrong;
    private int looked;

    void due(String what, Object got, Object want) {
        looked++;
        if (!want.equals(got)) {
            wrong++;
            System.out.println(what + " answered " + got + ", due is " + want);
        }
    }

    /** The call has to throw just that exception, and to leave the hall as it was. */
    void dueThrow(String what, SorobanHall hall, Class<?> want, Call call) {
        long before = hall.digest();
        due(what, outcome(hall, call), thrown(want));
        due(what + ": the digest after it", hall.digest(), before);
    }

    /** The call has to answer that, and to leave the hall as it was. */
    void dueUnchanged(String what, SorobanHall hall, Object want, Call call) {
        long before = hall.digest();
        due(what, outcome(hall, call), want);
        due(what + ": the digest after it", hall.digest(), before);
    }

    /** The call has to throw just that exception, and to change nothing, not even what is kept. */
    void dueRefused(String what, Halls.Build build, Class<?> want, Call call) {
        dueNothingDone(what, build, thrown(want), call);
    }

    /** The call has to answer that, and to change nothing, not even what is kept. */
    void dueNothingDone(String what, Halls.Build build, Object want, Call call) {
        due(what, outcome(build.hall(), call), want);
        due(what + ": all that is known after it", Halls.toldAfter(build, call), Halls.toldAfter(build, NO_CALL));
    }

    /** What the call answers, or what it throws. */
    static Object outcome(SorobanHall hall, Call call) {
        try {
            return call.on(hall);
        } catch (RuntimeException e) {
            return thrown(e.getClass());
        }
    }

    private static String thrown(Class<?> exception) {
        return "throws." + exception.getSimpleName();
    }

    void end(String test) {
        System.out.println(test + ": " + looked + " answers looked at, " + wrong + " wrong");
        if (wrong > 0 || looked == 0) {
            System.exit(1);
        }
    }
}
