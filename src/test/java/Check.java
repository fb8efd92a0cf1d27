import java.util.NoSuchElementException;
import java.util.function.LongSupplier;

/**
 * Counts answers that are not due; beside it, short ways to call AbnfChart with texts. No object is
 * asked more than 512 times, because the document promises nothing behind that.
 */
final class Check {
    /** Answers that stand for an exception: none of the class's calls answers so far below. */
    static final long ILLEGAL_ARGUMENT = -1001;
    static final long ILLEGAL_STATE = -1002;
    static final long NO_SUCH_ELEMENT = -1003;
    static final long INDEX_OUT_OF_BOUNDS = -1004;
    static final long ANOTHER_EXCEPTION = -1005;

    private int calls = 0;
    private int wrong = 0;

    void due(String call, long want, LongSupplier asked) {
        long got = answer(asked);
        calls++;
        if (got != want) {
            wrong++;
            System.out.println(call + " answered " + told(got) + ", due is " + told(want));
        }
    }

    void same(String what, String want, String got) {
        calls++;
        if (!got.equals(want)) {
            wrong++;
            System.out.println(what + " is " + got + ", due is " + want);
        }
    }

    /** A text that can be read, and how many rules, elements and told rules it has. */
    void well(String text, int rules, int elements, int told) {
        AbnfChart x = used(text);
        String shown = shown(text);
        due("read of " + shown, rules, x::read);
        due("place in " + shown, AbnfChart.NONE, x::place);
        due("rules of " + shown, rules, () -> x.count(0));
        due("elements of " + shown, elements, () -> x.count(1));
        due("told rules of " + shown, told, () -> x.count(2));
        due("last rule of " + shown, 1, () -> x.pieces(rules - 1) >= 0 ? 1 : 0);
        due("no rule behind the last one of " + shown, NO_SUCH_ELEMENT, () -> x.pieces(rules));
        due("read again of " + shown, rules, x::read);
        due("length of " + shown, text.length(), x::erase);
    }

    void ill(String text, int place) {
        fault(text, ILLEGAL_ARGUMENT, place);
    }

    void tooMuch(String text, int place) {
        fault(text, ILLEGAL_STATE, place);
    }

    /** Behind a read that throws there is no grammar; text and input are as they were. */
    private void fault(String text, long exception, int place) {
        AbnfChart x = used(text);
        String shown = shown(text);
        due("read of " + shown, exception, x::read);
        due("place in " + shown, place, x::place);
        for (int what = 0; what <= 2; what++) {
            int asked = what;
            due("count " + what + " behind " + shown, 0, () -> x.count(asked));
        }
        due("count 3 behind " + shown, INDEX_OUT_OF_BOUNDS, () -> x.count(3));
        due("rule(a) behind " + shown, NO_SUCH_ELEMENT, () -> x.rule('a'));
        due("rule(old) behind " + shown, NO_SUCH_ELEMENT, () -> x.rule(pack("old")));
        due("rule(0) behind " + shown, NO_SUCH_ELEMENT, () -> x.rule(0));
        due("matches behind " + shown, NO_SUCH_ELEMENT, () -> x.matches(0, 0, 1) ? 1 : 0);
        due("matches nowhere behind " + shown, NO_SUCH_ELEMENT, () -> x.matches(0, 1, 0) ? 1 : 0);
        due("longest behind " + shown, NO_SUCH_ELEMENT, () -> x.longest(0, 0));
        due("longest nowhere behind " + shown, NO_SUCH_ELEMENT, () -> x.longest(0, 9));
        due("pieces behind " + shown, NO_SUCH_ELEMENT, () -> x.pieces(0));
        due("read again of " + shown, exception, x::read);
        due("place again in " + shown, place, x::place);
        due("length of " + shown, text.length(), x::erase);
        due("input behind " + shown, 2, x::drop);
        due("place behind erase and drop of " + shown, place, x::place);
    }

    /** The pieces of the first rule as a table: "i-j i-j ..", every other pair is no match. */
    void found(String grammar, String input, String pieces) {
        AbnfChart x = made(grammar, input);
        String where = shown(grammar) + " on " + shown(input) + ": ";
        String padded = " " + pieces + " ";
        int total = 0;
        for (int i = 0; i <= input.length(); i++) {
            int last = AbnfChart.NONE;
            for (int j = i; j <= input.length(); j++) {
                int from = i;
                int to = j;
                boolean fits = padded.contains(" " + i + "-" + j + " ");
                due(where + "matches " + i + ", " + j, fits ? 1 : 0, () -> x.matches(0, from, to) ? 1 : 0);
                total += fits ? 1 : 0;
                last = fits ? j : last;
            }
            int from = i;
            due(where + "longest " + i, last, () -> x.longest(0, from));
        }
        due(where + "pieces", total, () -> x.pieces(0));
    }

    /** Ends the program: with exit code 1 if an answer was not due or nothing was asked. */
    void end() {
        System.out.println(calls + " answers, " + wrong + " wrong");
        System.exit(wrong > 0 || calls == 0 ? 1 : 0);
    }

    static long answer(LongSupplier asked) {
        try {
            return asked.getAsLong();
        } catch (RuntimeException e) {
            return codeOf(e);
        }
    }

    private static long codeOf(RuntimeException e) {
        Class<?> kind = e.getClass();
        if (kind == IllegalArgumentException.class) {
            return ILLEGAL_ARGUMENT;
        }
        if (kind == IllegalStateException.class) {
            return ILLEGAL_STATE;
        }
        if (kind == NoSuchElementException.class) {
            return NO_SUCH_ELEMENT;
        }
        return kind == IndexOutOfBoundsException.class ? INDEX_OUT_OF_BOUNDS : ANOTHER_EXCEPTION;
    }

    private static String told(long answer) {
        if (answer == ILLEGAL_ARGUMENT) {
            return "throws.IllegalArgumentException";
        }
        if (answer == ILLEGAL_STATE) {
            return "throws.IllegalStateException";
        }
        if (answer == NO_SUCH_ELEMENT) {
            return "throws.NoSuchElementException";
        }
        if (answer == INDEX_OUT_OF_BOUNDS) {
            return "throws.IndexOutOfBoundsException";
        }
        return answer == ANOTHER_EXCEPTION ? "throws another exception" : Long.toString(answer);
    }

    static String shown(String text) {
        return text.replace("\n", "\\n");
    }

    static long pack(String text) {
        long eight = 0;
        for (int k = 0; k < text.length() && k < 8; k++) {
            eight |= (long) (text.charAt(k) & 255) << 8 * k;
        }
        return eight;
    }

    static void write(AbnfChart chart, String text) {
        for (int k = 0; k < text.length(); k += 8) {
            String piece = text.substring(k, Math.min(k + 8, text.length()));
            chart.write(pack(piece), piece.length());
        }
    }

    static void give(AbnfChart chart, String text) {
        for (int k = 0; k < text.length(); k += 8) {
            String piece = text.substring(k, Math.min(k + 8, text.length()));
            chart.give(pack(piece), piece.length());
        }
    }

    static AbnfChart written(String grammar) {
        AbnfChart chart = new AbnfChart();
        write(chart, grammar);
        return chart;
    }

    static AbnfChart made(String grammar, String input) {
        AbnfChart chart = written(grammar);
        chart.read();
        give(chart, input);
        return chart;
    }

    /** An object with a text that is to be read; it had another grammar before, and has an input. */
    private static AbnfChart used(String text) {
        AbnfChart x = made("old=2old / \"x\" a\na=[\"x\"]", "xx");
        x.pieces(0);
        x.erase();
        write(x, text);
        return x;
    }
}
