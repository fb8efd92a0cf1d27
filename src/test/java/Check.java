import java.util.NoSuchElementException;
import java.util.function.LongSupplier;

/** Counts answers that are not due; beside it, short ways to call AbnfChart with texts. */
final class Check {
    /** Answers that stand for an exception: none of the class's calls answers so far below. */
    static final long ILLEGAL_ARGUMENT = -1001;
    static final long ILLEGAL_STATE = -1002;
    static final long NO_SUCH_ELEMENT = -1003;
    static final long INDEX_OUT_OF_BOUNDS = -1004;
    static final long ANOTHER_EXCEPTION = -1005;

    private int calls = 0;
    private int wrong = 0;

    void due(String call, long want, LongSupplier asked) {
        long got = answer(asked);
        calls++;
        if (got != want) {
            wrong++;
            System.out.println(call + " answered " + told(got) + ", due is " + told(want));
        }
    }

    /** Ends the program: with exit code 1 if an answer was not due or nothing was asked. */
    void end() {
        System.out.println(calls + " answers, " + wrong + " wrong");
        System.exit(wrong > 0 || calls == 0 ? 1 : 0);
    }

    static long answer(LongSupplier asked) {
        try {
            return asked.getAsLong();
        } catch (RuntimeException e) {
            return codeOf(e);
        }
    }

    private static long codeOf(RuntimeException e) {
        Class<?> kind = e.getClass();
        if (kind == IllegalArgumentException.class) {
            return ILLEGAL_ARGUMENT;
        }
        if (kind == IllegalStateException.class) {
            return ILLEGAL_STATE;
        }
        if (kind == NoSuchElementException.class) {
            return NO_SUCH_ELEMENT;
        }
        return kind == IndexOutOfBoundsException.class ? INDEX_OUT_OF_BOUNDS : ANOTHER_EXCEPTION;
    }

    private static String told(long answer) {
        if (answer == ILLEGAL_ARGUMENT) {
            return "throws.IllegalArgumentException";
        }
        if (answer == ILLEGAL_STATE) {
            return "throws.IllegalStateException";
        }
        if (answer == NO_SUCH_ELEMENT) {
            return "throws.NoSuchElementException";
        }
        if (answer == INDEX_OUT_OF_BOUNDS) {
            return "throws.IndexOutOfBoundsException";
        }
        return answer == ANOTHER_EXCEPTION ? "throws another exception" : Long.toString(answer);
    }

    static long pack(String text) {
        long eight = 0;
        for (int k = 0; k < text.length() && k < 8; k++) {
            eight |= (long) (text.charAt(k) & 255) << 8 * k;
        }
        return eight;
    }

    static void write(AbnfChart chart, String text) {
        for (int k = 0; k < text.length(); k += 8) {
            String piece = text.substring(k, Math.min(k + 8, text.length()));
            chart.write(pack(piece), piece.length());
        }
    }

    static void give(AbnfChart chart, String text) {
        for (int k = 0; k < text.length(); k += 8) {
            String piece = text.substring(k, Math.min(k + 8, text.length()));
            chart.give(pack(piece), piece.length());
        }
    }

    static AbnfChart written(String grammar) {
        AbnfChart chart = new AbnfChart();
        write(chart, grammar);
        return chart;
    }

    static AbnfChart made(String grammar, String input) {
        AbnfChart chart = written(grammar);
        chart.read();
        give(chart, input);
        return chart;
    }
}
