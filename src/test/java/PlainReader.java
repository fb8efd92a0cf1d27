import java.util.HashSet;
import java.util.Locale;
import java.util.Set;
import java.util.regex.Pattern;

/**
 * Reads a text in every way that the terms allow at once, without choosing one: the ways to read a
 * thing are the places behind it, as bits of a long. It knows nothing of what is TOO MUCH.
 */
final class PlainReader {
    static final int WELL = AbnfChart.NONE;
    /** A long has bits for the places before and behind so many characters, and for no more. */
    static final int MOST_TEXT = 62;

    private static final Pattern BLANK = Pattern.compile(" *(;.*)?");
    private static final String LETTERS = "abcdefghijklmnopqrstuvwxyzABCDEFGHIJKLMNOPQRSTUVWXYZ";
    private static final String DIGITS = "0123456789";

    private final String text;
    private final Set<String> told = new HashSet<>();
    private int farthest = 0;

    /** Told numbers or names are wrong, though the characters can be read. */
    private static final class Wrong extends RuntimeException {
        private static final long serialVersionUID = 1;
        private final int place;

        Wrong(int newPlace) {
            super(null, null, false, false);
            place = newPlace;
        }
    }

    private PlainReader(String newText) {
        text = newText;
    }

    /** The place that is due, or WELL. */
    static int placeIn(String text) {
        PlainReader reader = new PlainReader(text);
        try {
            return reader.isWell() ? WELL : reader.farthest;
        } catch (Wrong wrong) {
            return wrong.place;
        }
    }

    private boolean isWell() {
        int line = fullLine(0);
        farthest = line;
        boolean any = false;
        while (line >= 0 && line < text.length()) {
            line = rule(line);
            any = true;
        }
        return any && line >= 0;
    }

    /** Where the next rule begins, or the text's length; -1 when it can't be read to its end. */
    private int rule(int start) {
        for (int behind : places(name(start))) {
            for (int equals : places(one(gap(1L << behind), "="))) {
                boolean further = one(1L << equals, "/") != 0;
                String name = text.substring(start, behind).toLowerCase(Locale.ROOT);
                if (told.contains(name) != further) {
                    throw new Wrong(start);
                }
                told.add(name);
                long ends = gap(alternatives(gap(1L << equals + (further ? 1 : 0))));
                for (int end : places(ends)) {
                    farthest = Math.max(farthest, end);
                    if (endsAt(end)) {
                        return fullLine(end + 1);
                    }
                }
            }
        }
        return -1;
    }

    private boolean endsAt(int place) {
        return place == text.length() || text.charAt(place) == '\n' && !goesOnBehind(place);
    }

    private boolean goesOnBehind(int lineEnd) {
        return text.startsWith(" ", fullLine(lineEnd + 1));
    }

    private int fullLine(int from) {
        int line = from;
        while (line < text.length()) {
            int end = text.indexOf('\n', line);
            end = end < 0 ? text.length() : end;
            if (!BLANK.matcher(text.substring(line, end)).matches()) {
                return line;
            }
            line = end + 1;
        }
        return text.length();
    }

    private long gap(long from) {
        long all = from;
        for (int k = 0; k < text.length(); k++) {
            if ((all >> k & 1) == 1) {
                all |= gapPiece(k);
            }
        }
        return all;
    }

    private long gapPiece(int place) {
        char code = text.charAt(place);
        if (code == ';') {
            int end = text.indexOf('\n', place);
            return 1L << (end < 0 ? text.length() : end);
        }
        return code == ' ' || code == '\n' && goesOnBehind(place) ? 1L << place + 1 : 0;
    }

    private long alternatives(long from) {
        long all = sequence(from);
        long fresh = all;
        while (fresh != 0) {
            long more = sequence(gap(one(gap(fresh), "/")));
            fresh = more & ~all;
            all |= more;
        }
        return all;
    }

    private long sequence(long from) {
        long all = repetition(from);
        long fresh = all;
        while (fresh != 0) {
            long more = 0;
            for (int place : places(fresh)) {
                more |= repetition(gap(1L << place) & ~(1L << place));
            }
            fresh = more & ~all;
            all |= more;
        }
        return all;
    }

    private long repetition(long from) {
        long ends = element(from);
        for (int start : places(from)) {
            long digit = one(1L << start, DIGITS);
            long star = one(1L << start | digit, "*");
            long last = one(star, DIGITS);
            if (digit != 0 && last != 0 && text.charAt(start) > text.charAt(start + 2)) {
                throw new Wrong(start);
            }
            ends |= element(digit | star | last);
        }
        return ends;
    }

    private long element(long from) {
        long ends = 0;
        for (int start : places(from)) {
            long at = 1L << start;
            ends |= name(start) | value(start, "dD", 10, 3) | value(start, "xX", 16, 2);
            ends |= string(at | one(one(at, "%"), "sS"));
            ends |= bracket(at, "(", ")") | bracket(at, "[", "]");
        }
        return ends;
    }

    private long bracket(long from, String open, String close) {
        long inside = gap(one(from, open));
        return inside == 0 ? 0 : one(gap(alternatives(inside)), close);
    }

    private long string(long from) {
        long at = one(from, "\"");
        long ends = one(at, "\"");
        for (int k = 0; k < 12; k++) {
            at = other(at, "\"\n");
            ends |= one(at, "\"");
        }
        return ends;
    }

    private long value(int start, String letters, int base, int most) {
        long from = one(one(1L << start, "%"), letters);
        if (from == 0) {
            return 0;
        }
        long first = number(start, from, base, most);
        long second = number(start, one(first, "-"), base, most);
        if (second != 0 && numberBefore(first, base) > numberBefore(second, base)) {
            throw new Wrong(start);
        }
        long ends = first | second;
        long last = first;
        for (int k = 0; k < 3; k++) {
            last = number(start, one(last, "."), base, most);
            ends |= last;
        }
        return ends;
    }

    /** As many digits as there are, because none can follow a number. */
    private long number(int start, long from, int base, int most) {
        String digits = base == 10 ? DIGITS : DIGITS + "abcdefABCDEF";
        long at = one(from, digits);
        for (int k = 1; k < most && one(at, digits) != 0; k++) {
            at = one(at, digits);
        }
        if (at != 0 && numberBefore(at, base) > 127) {
            throw new Wrong(start);
        }
        return at;
    }

    private int numberBefore(long place, int base) {
        int end = Long.numberOfTrailingZeros(place);
        int start = end;
        while (Character.digit(text.charAt(start - 1), base) >= 0) {
            start--;
        }
        // The d of %d is no decimal digit and the x of %x no hexadecimal one, so they end it.
        return Integer.parseInt(text.substring(start, end), base);
    }

    private long name(int start) {
        long at = one(1L << start, LETTERS);
        long ends = at;
        for (int k = 0; k < 5; k++) {
            at = one(at, LETTERS + DIGITS + "-");
            ends |= at;
        }
        return ends;
    }

    private long one(long from, String codes) {
        long ends = 0;
        for (int place : places(from)) {
            farthest = Math.max(farthest, place);
            if (place < text.length() && codes.indexOf(text.charAt(place)) >= 0) {
                ends |= 1L << place + 1;
            }
        }
        return ends;
    }

    private long other(long from, String codes) {
        long ends = 0;
        for (int place : places(from)) {
            farthest = Math.max(farthest, place);
            if (place < text.length() && codes.indexOf(text.charAt(place)) < 0) {
                ends |= 1L << place + 1;
            }
        }
        return ends;
    }

    private static int[] places(long set) {
        int[] all = new int[Long.bitCount(set)];
        long rest = set;
        for (int k = 0; k < all.length; k++) {
            all[k] = Long.numberOfTrailingZeros(rest);
            rest &= rest - 1;
        }
        return all;
    }
}
