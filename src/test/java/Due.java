/** Compares answers with the ones that are due, and counts the wrong ones. */
final class Due {
    interface Call {
        long answer();
    }

    static final Class<? extends Exception> ARGUMENT = IllegalArgumentException.class;
    static final Class<? extends Exception> STATE = IllegalStateException.class;
    static final Class<? extends Exception> INDEX = IndexOutOfBoundsException.class;

    private final String test;
    private int promise;
    private int checked;
    private int wrong;

    Due(String test) {
        this.test = test;
    }

    void promise(int number) {
        promise = number;
    }

    void is(String what, long got, long want) {
        checked++;
        if (got != want) {
            tell(what + " answered " + got + ", due is " + want);
        }
    }

    void is(String what, double got, double want) {
        is(what + " as bits", Double.doubleToRawLongBits(got), Double.doubleToRawLongBits(want));
    }

    void row(String what, int[] got, int... want) {
        checked++;
        if (!java.util.Arrays.equals(got, want)) {
            tell(what + " answered " + java.util.Arrays.toString(got)
                    + ", due is " + java.util.Arrays.toString(want));
        }
    }

    /** The call throws just this, and nothing that can be seen of the object is changed. */
    void refused(LatticeGestures gestures, String what, Class<? extends Exception> want, Call call) {
        checked++;
        long before = gestures.digest();
        Class<?> got = null;
        try {
            call.answer();
        } catch (RuntimeException thrown) {
            got = thrown.getClass();
        }
        if (got != want) {
            tell(what + " threw " + got + ", due is " + want);
        }
        if (gestures.digest() != before) {
            tell(what + " changed something, though it was refused");
        }
    }

    /** To be called last: ends with exit code 1 if an answer was wrong. */
    void end() {
        System.out.println(test + ": " + checked + " checked, " + wrong + " wrong");
        if (wrong > 0 || checked == 0) {
            System.exit(1);
        }
    }

    private void tell(String what) {
        wrong++;
        System.out.println(test + ", promise " + promise + ": " + what);
    }
}
