import java.util.NoSuchElementException;

/** What the tests share: calls that may throw, answers that are due, and texts put on the tape. */
final class Check {
    /** A call whose answer is looked at as a long. */
    interface Call {
        long answer();
    }

    static final String INDEX = "IndexOutOfBoundsException";
    static final String ARGUMENT = "IllegalArgumentException";
    static final String STATE = "IllegalStateException";
    static final String ELEMENT = "NoSuchElementException";

    private int wrong;
    private int looked;

    void due(String what, long want, long got) {
        same(what, Long.toString(want), Long.toString(got));
    }

    void throwing(String what, String exception, Call call) {
        same(what, exception, outcome(call));
    }

    void same(String what, String want, String got) {
        looked++;
        if (!want.equals(got)) {
            wrong++;
            if (wrong <= 40) {
                System.out.println(what + ": due is " + want + ", but got " + got);
            }
        }
    }

    boolean isFine() {
        return wrong == 0;
    }

    /** Ends the test: exit code 1 if an answer was not the one that is due. */
    void end(String test) {
        System.out.println(test + ": " + looked + " looked at, " + wrong + " wrong");
        if (wrong != 0 || looked == 0) {
            System.exit(1);
        }
    }

    /** The answer as a text, or the simple name of the exception (its very class). */
    static String outcome(Call call) {
        try {
            return Long.toString(call.answer());
        } catch (IndexOutOfBoundsException | IllegalArgumentException | IllegalStateException
                | NoSuchElementException e) {
            return e.getClass().getSimpleName();
        } catch (RuntimeException e) {
            return "unforeseen " + e;
        }
    }

    static long feedText(DueQueue queue, String text) {
        long fed = 0;
        for (int i = 0; i < text.length(); i += 20) {
            fed = queue.feed(word(text, i), word(text, i + 4), word(text, i + 8), word(text, i + 12),
                    word(text, i + 16));
        }
        return fed;
    }

    static int plan(DueQueue queue, String text) {
        feedText(queue, text);
        return queue.plan(text.length());
    }

    static int chart(DueQueue queue, String text) {
        feedText(queue, text);
        return queue.chart(text.length());
    }

    static int word(String text, int at) {
        int word = 0;
        for (int i = at; i < at + 4; i++) {
            word = word << 8 | (i < text.length() ? text.charAt(i) & 255 : 0);
        }
        return word;
    }
}
