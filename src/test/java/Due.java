import java.util.function.LongSupplier;

/** Counts and prints the answers that are not the ones that are due. */
final class Due {
    /** What a call counts as that throws an index outside. */
    static final long THROWN = Long.MIN_VALUE;

    private int wrong;
    private int looked;

    void is(String what, long want, long got) {
        looked++;
        if (got != want) {
            wrong++;
            System.out.println(what + " answered " + got + ", due is " + want);
        }
    }

    void yes(String what, boolean got) {
        is(what, 1, got ? 1 : 0);
    }

    void no(String what, boolean got) {
        is(what, 0, got ? 1 : 0);
    }

    void same(String what, String want, String got) {
        looked++;
        if (!got.equals(want)) {
            wrong++;
            System.out.println(what + " tells\n" + got + "\ndue is\n" + want);
        }
    }

    /** Event k of the last run is this one. */
    void event(LineEvents x, int k, int instant, int machine, int kind) {
        is("event(" + k + ", 0)", instant, x.event(k, 0));
        is("event(" + k + ", 1)", machine, x.event(k, 1));
        is("event(" + k + ", 2)", kind, x.event(k, 2));
    }

    void throwsIndexOutside(String what, LongSupplier call) {
        is(what, THROWN, answer(call));
    }

    /** The call's answer; THROWN for the document's exception. Others end the test. */
    static long answer(LongSupplier call) {
        try {
            return call.getAsLong();
        } catch (ArrayIndexOutOfBoundsException e) {
            // The machine's own exceptions bear another text; the class must never let it throw.
            if (!"no such machine".equals(e.getMessage())) {
                throw new IllegalStateException("thrown by the Java machine itself", e);
            }
            return THROWN;
        }
    }

    int wrongCount() {
        return wrong;
    }

    /** Ends the test: exit code 1 if an answer was wrong or none was looked at. */
    void end() {
        System.out.println(looked + " answers, " + wrong + " not as due");
        if (wrong > 0 || looked == 0) {
            System.exit(1);
        }
    }
}
