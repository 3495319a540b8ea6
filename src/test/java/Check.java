import java.util.NoSuchElementException;

/** Counts answers that are not the ones due, for the tests beside it. */
final class Check {
    /** What ask() answers for a call that throws. */
    static final long NO_SUCH_ELEMENT = Long.MIN_VALUE + 1;
    static final long OUT_OF_BOUNDS = Long.MIN_VALUE + 2;
    static final long OTHER_THROW = Long.MIN_VALUE + 3;

    interface Call {
        long answer();
    }

    private int asked;
    private int wrong;

    void due(String what, long got, long want) {
        asked++;
        if (got != want) {
            wrong++;
            System.out.println(what + " answered " + got + ", due is " + want);
        }
    }

    void due(String what, boolean got, boolean want) {
        due(what, got ? 1 : 0, want ? 1 : 0);
    }

    void dueCall(String what, Call call, long want) {
        due(what, ask(call), want);
    }

    static long ask(Call call) {
        try {
            return call.answer();
        } catch (RuntimeException e) {
            // Just the classes that the document names: one below them would be the machine's own.
            if (e.getClass() == NoSuchElementException.class) {
                return NO_SUCH_ELEMENT;
            }
            return e.getClass() == IndexOutOfBoundsException.class ? OUT_OF_BOUNDS : OTHER_THROW;
        }
    }

    /** Feeds a text (padded with zeros to twenties), votes it, and answers what vote() did. */
    static int vote(Face x, String text, int from) {
        feed(x, text);
        return x.vote(text.length(), from);
    }

    static void feed(Face x, String text) {
        for (int i = 0; i < text.length(); i += 20) {
            x.feed(word(text, i), word(text, i + 4), word(text, i + 8), word(text, i + 12), word(text, i + 16));
        }
    }

    private static int word(String text, int at) {
        int w = 0;
        for (int i = at; i < at + 4; i++) {
            w = w << 8 | (i < text.length() ? text.charAt(i) & 255 : 0);
        }
        return w;
    }

    /** Ends the test: exit code 1 if an answer was wrong, or if nothing was asked. */
    void end() {
        System.out.println(asked + " answers, " + wrong + " of them wrong");
        if (wrong != 0 || asked == 0) {
            System.exit(1);
        }
    }
}
