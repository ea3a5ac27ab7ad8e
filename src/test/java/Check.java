/** What a test asks: each of these throws an AssertionError if it is not so. */
final class Check {
    /** A call whose exception is looked at. */
    interface Call {
        void make();
    }

    /** A call with one number that is looked at. */
    interface CallWith {
        void make(int number);
    }

    static final Class<? extends RuntimeException> NO_SUCH = IndexOutOfBoundsException.class;
    static final Class<? extends RuntimeException> BAD_NUMBER = IllegalArgumentException.class;
    static final Class<? extends RuntimeException> NOT_NOW = IllegalStateException.class;

    private Check() {
    }

    static void same(long got, long want) {
        if (got != want) {
            throw new AssertionError("answered " + got + ", due is " + want);
        }
    }

    static void same(double got, double want) {
        if (Double.compare(got, want) != 0) {
            throw new AssertionError("answered " + got + ", due is " + want);
        }
    }

    static void holds(boolean is, String what) {
        if (!is) {
            throw new AssertionError(what);
        }
    }

    /** The call throws exactly this class (no class below it), and the land tells the same as before. */
    static void refuses(RumourCustoms land, Class<? extends RuntimeException> want, Call call) {
        long before = land.digest();
        Class<?> got = null;
        try {
            call.make();
        } catch (RuntimeException e) {
            got = e.getClass();
            isOwn(e);
        }
        if (got != want) {
            throw new AssertionError("threw " + got + ", due is " + want);
        }
        same(land.digest(), before);
    }

    /** Numbers just below and just above the limits, and as far from them as there are, are refused. */
    static void refusesOutside(
            RumourCustoms land, Class<? extends RuntimeException> want, int least, int most, CallWith call) {
        int[] outside = {least - 1, most + 1, Integer.MIN_VALUE, Integer.MAX_VALUE};
        for (int number : outside) {
            refuses(land, want, () -> call.make(number));
        }
    }

    /** The class threw it itself: neither the machine nor the library found the fault. */
    static void isOwn(RuntimeException e) {
        StackTraceElement thrower = e.getStackTrace()[0];
        holds(thrower.getClassName().startsWith("RumourCustoms"), "thrown by " + thrower);
    }

    /** What an asking call tells for 0, 1, 2 and so on. */
    static void row(java.util.function.IntUnaryOperator asked, int... want) {
        for (int what = 0; what < want.length; what++) {
            int got = asked.applyAsInt(what);
            if (got != want[what]) {
                throw new AssertionError("answered " + got + " for " + what + ", due is " + want[what]);
            }
        }
    }
}
