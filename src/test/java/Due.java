/** Compares answers with the ones that are due, and counts the wrong ones. */
final class Due {
    interface Call {
        long answer();
    }

    interface Maker {
        LatticeGestures make();
    }

    interface Act {
        void on(LatticeGestures gestures);
    }

    static final Class<? extends Exception> ARGUMENT = IllegalArgumentException.class;
    static final Class<? extends Exception> STATE = IllegalStateException.class;
    static final Class<? extends Exception> INDEX = IndexOutOfBoundsException.class;

    private final String test;
    private int promise;
    private String sentence = "";
    private int checkedBefore;
    private int checked;
    private int wrong;

    Due(String test) {
        this.test = test;
    }

    void promise(int number) {
        leaveSentence();
        promise = number;
    }

    /** The words of the document that the checks from here on are about. */
    void sentence(String words) {
        leaveSentence();
        sentence = words;
        checkedBefore = checked;
    }

    private void leaveSentence() {
        if (!sentence.isEmpty() && checked == checkedBefore) {
            tell("nothing is checked");
        }
        sentence = "";
    }

    void is(String what, long got, long want) {
        checked++;
        if (got != want) {
            tell(what + " answered " + got + ", due is " + want);
        }
    }

    void is(String what, double got, double want) {
        is(what + " as bits", Double.doubleToRawLongBits(got), Double.doubleToRawLongBits(want));
    }

    void row(String what, int[] got, int... want) {
        checked++;
        if (!java.util.Arrays.equals(got, want)) {
            tell(what + " answered " + java.util.Arrays.toString(got)
                    + ", due is " + java.util.Arrays.toString(want));
        }
    }

    /** The call throws just this, and nothing that can be seen of the object is changed. */
    void refused(LatticeGestures gestures, String what, Class<? extends Exception> want, Call call) {
        long before = gestures.digest();
        throwsJust(what, want, call);
        is(what + ": digest after it was refused", gestures.digest(), before);
    }

    /** The call throws just this, and nothing is changed, not even what later undos bring back. */
    void refuses(Maker maker, String what, Class<? extends Exception> want, Act act) {
        LatticeGestures tried = maker.make();
        throwsJust(what, want, () -> {
            act.on(tried);
            return 0;
        });
        same(what + ", refused", tried, maker.make());
    }

    private void throwsJust(String what, Class<? extends Exception> want, Call call) {
        checked++;
        Class<?> got = null;
        try {
            call.answer();
        } catch (RuntimeException thrown) {
            got = thrown.getClass();
        }
        if (got != want) {
            tell(what + " threw " + got + ", due is " + want);
        }
    }

    /** The calls change nothing, not even what later undos bring back. */
    void keeps(Maker maker, String what, Act act) {
        LatticeGestures looked = maker.make();
        act.on(looked);
        same(what, looked, maker.make());
    }

    /** The call saves the state from before it, beside at most 5 others, and undo brings it back. */
    void saves(Maker maker, String what, Act act) {
        LatticeGestures changed = maker.make();
        LatticeGestures spared = maker.make();
        act.on(changed);
        is(what + ": saved states", changed.count(8), spared.count(8) + 1);
        throwsJust(what + ": undo", null, changed::undo);
        same(what + ", undone", changed, spared);
    }

    /** Compares all that can be seen, now and after each undo. */
    private void same(String what, LatticeGestures got, LatticeGestures want) {
        is(what + ": digest", got.digest(), want.digest());
        is(what + ": first error", got.firstError(), want.firstError());
        int saved = want.count(8);
        for (int undone = 1; undone <= saved && got.count(8) > 0; undone++) {
            is(what + ": undo", got.undo(), want.undo());
            is(what + ": digest after " + undone + " undone", got.digest(), want.digest());
        }
    }

    /** To be called last: ends with exit code 1 if an answer was wrong. */
    void end() {
        leaveSentence();
        System.out.println(test + ": " + checked + " checked, " + wrong + " wrong");
        if (wrong > 0 || checked == 0) {
            System.exit(1);
        }
    }

    private void tell(String what) {
        wrong++;
        System.out.println(test + ", promise " + promise + ": " + what);
        if (!sentence.isEmpty()) {
            System.out.println("    the document: " + sentence);
        }
    }
}
