import java.util.ArrayList;
import java.util.Arrays;
import java.util.List;

/** Counts answers that are not as due, and tells them. */
final class Checks {
    /** A call whose exception, or whose having none, is looked at. */
    interface Call {
        void run();
    }

    private final String title;
    private final List<String> quoted = new ArrayList<>();
    private String under = "";
    private int looked;
    private int wrong;

    Checks(String title) {
        this.title = title;
    }

    /** Begins the test of a sentence, which must stand in the document: under "Terms", or in the promise of a number. */
    void sentence(String section, String text) {
        under = section + ", \"" + text + "\": ";
        quoted.add(section + " " + text);
        dueTrue("that it stands in the document", Doc.has(section, text));
    }

    void sentence(int promise, String text) {
        sentence(String.valueOf(promise), text);
    }

    /** Each sentence of a section must have had a test, but for those that begin with a text that asks for none. */
    void allQuoted(String section, String... askForNone) {
        under = "";
        for (String sentence : Doc.sentences(section)) {
            boolean isFree = Arrays.stream(askForNone).anyMatch(sentence::startsWith);
            dueTrue(section + ", \"" + sentence + "\" has a test", isFree || hasQuoteOf(section, sentence));
        }
    }

    private boolean hasQuoteOf(String section, String sentence) {
        String start = section + " ";
        for (String quote : quoted) {
            if (quote.startsWith(start) && isPart(quote.substring(start.length()), sentence)) {
                return true;
            }
        }
        return false;
    }

    private static boolean isPart(String quote, String sentence) {
        return sentence.contains(quote) || quote.contains(sentence);
    }

    void due(String what, long got, long want) {
        looked++;
        if (got != want) {
            tell(what + " answered " + got + ", due is " + want);
        }
    }

    void dueFloat(String what, float got, float want) {
        looked++;
        if (Float.floatToIntBits(got) != Float.floatToIntBits(want)) {
            tell(what + " answered " + got + ", due is " + want);
        }
    }

    void dueIs(String what, boolean got, boolean want) {
        due(what, got ? 1 : 0, want ? 1 : 0);
    }

    void dueText(String what, String got, String want) {
        looked++;
        if (!got.equals(want)) {
            tell(what + " answered " + got + ", due is " + want);
        }
    }

    void dueTrue(String what, boolean holds) {
        looked++;
        if (!holds) {
            tell(what + " does not hold");
        }
    }

    void moves(String what, Swervewright x, int plan, int... want) {
        dueText(what + ", its moves", Arrays.toString(Calls.movesOf(x, plan)), Arrays.toString(want));
    }

    /** The squares of the speeds at all poses of a plan. */
    void squares(String what, Swervewright x, int plan, float... want) {
        for (int at = 0; at < want.length; at++) {
            dueFloat(what + ", speed at " + at, x.speed(plan, at), want[at]);
        }
        index(what + ", speed behind the last pose", () -> x.speed(plan, want.length));
    }

    void index(String what, Call call) {
        thrown(what, IndexOutOfBoundsException.class, call);
    }

    void argument(String what, Call call) {
        thrown(what, IllegalArgumentException.class, call);
    }

    void state(String what, Call call) {
        thrown(what, IllegalStateException.class, call);
    }

    void thrown(String what, Class<?> want, Call call) {
        looked++;
        Class<?> got = null;
        try {
            call.run();
        } catch (RuntimeException e) {
            got = e.getClass();
        }
        if (got != want) {
            tell(what + " threw " + got + ", due is " + want);
        }
    }

    void tell(String text) {
        wrong++;
        if (wrong <= 30) {
            System.out.println(title + ": " + under + text);
        }
    }

    /** Ends the program with 1 if an answer was wrong. */
    void end() {
        System.out.println(title + ": " + looked + " answers looked at, " + wrong + " wrong");
        if (wrong != 0 || looked == 0) {
            System.exit(1);
        }
    }
}
