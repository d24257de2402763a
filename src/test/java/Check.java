/** Compares answers with those that are due, and ends a test with exit code 1 if one was wrong. */
final class Check {
    /** A call on a hall, whose answer or exception is looked at. */
    interface Call {
        Object on(SorobanHall hall);
    }

    private int wrong;
    private int looked;

    void due(String what, Object got, Object want) {
        looked++;
        if (!want.equals(got)) {
            wrong++;
            System.out.println(what + " answered " + got + ", due is " + want);
        }
    }

    /** The call has to throw just that exception, and to leave the hall as it was. */
    void dueThrow(String what, SorobanHall hall, Class<?> want, Call call) {
        long before = hall.digest();
        due(what, thrownBy(hall, call), want.getSimpleName());
        due(what + ": the digest after it", hall.digest(), before);
    }

    /** The call has to answer that, and to leave the hall as it was. */
    void dueUnchanged(String what, SorobanHall hall, Object want, Call call) {
        long before = hall.digest();
        due(what, call.on(hall), want);
        due(what + ": the digest after it", hall.digest(), before);
    }

    private static String thrownBy(SorobanHall hall, Call call) {
        try {
            return "the answer " + call.on(hall);
        } catch (RuntimeException e) {
            return e.getClass().getSimpleName();
        }
    }

    void end(String test) {
        System.out.println(test + ": " + looked + " answers looked at, " + wrong + " wrong");
        if (wrong > 0 || looked == 0) {
            System.exit(1);
        }
    }
}
