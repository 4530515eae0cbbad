/** Counts answers that are not as due, and tells them. */
final class Checks {
    /** A call whose exception, or whose having none, is looked at. */
    interface Call {
        void run();
    }

    private final String title;
    private int looked;
    private int wrong;

    Checks(String title) {
        this.title = title;
    }

    void due(String what, long got, long want) {
        looked++;
        if (got != want) {
            tell(what + " answered " + got + ", due is " + want);
        }
    }

    void dueFloat(String what, float got, float want) {
        looked++;
        if (Float.floatToIntBits(got) != Float.floatToIntBits(want)) {
            tell(what + " answered " + got + ", due is " + want);
        }
    }

    void dueIs(String what, boolean got, boolean want) {
        due(what, got ? 1 : 0, want ? 1 : 0);
    }

    void dueTrue(String what, boolean holds) {
        looked++;
        if (!holds) {
            tell(what + " does not hold");
        }
    }

    void index(String what, Call call) {
        thrown(what, IndexOutOfBoundsException.class, call);
    }

    void argument(String what, Call call) {
        thrown(what, IllegalArgumentException.class, call);
    }

    void state(String what, Call call) {
        thrown(what, IllegalStateException.class, call);
    }

    private void thrown(String what, Class<?> want, Call call) {
        looked++;
        Class<?> got = null;
        try {
            call.run();
        } catch (RuntimeException e) {
            got = e.getClass();
        }
        if (got != want) {
            tell(what + " threw " + got + ", due is " + want);
        }
    }

    void tell(String text) {
        wrong++;
        if (wrong <= 30) {
            System.out.println(title + ": " + text);
        }
    }

    /** Ends the program with 1 if an answer was wrong. */
    void end() {
        System.out.println(title + ": " + looked + " answers looked at, " + wrong + " wrong");
        if (wrong != 0 || looked == 0) {
            System.exit(1);
        }
    }
}
