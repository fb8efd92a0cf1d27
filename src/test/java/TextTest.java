/** Promises 1 to 3: a new object, write and erase. */
public final class TextTest {
    private static final Check CHECK = new Check();

    public static void main(String[] args) {
        newObject();
        writeCountsCharacters();
        writeTakesTheLowestByteFirst();
        writeRefusesWrongCounts();
        writeRefusesWrongCharacters();
        writeRefusesMoreThan240();
        eraseCounts();
        eraseLeavesTheGrammar();
        answersUpToThe512thCall();
        CHECK.end();
    }

    private static void newObject() {
        AbnfChart x = new AbnfChart();
        CHECK.due("NONE", -1, () -> AbnfChart.NONE);
        CHECK.due("new: place()", AbnfChart.NONE, x::place);
        for (int what = 0; what <= 2; what++) {
            int asked = what;
            CHECK.due("new: count", 0, () -> x.count(asked));
        }
        CHECK.due("new: rule(a)", Check.NO_SUCH_ELEMENT, () -> x.rule(Check.pack("a")));
        CHECK.due("new: rule(0)", Check.NO_SUCH_ELEMENT, () -> x.rule(0));
        CHECK.due("new: pieces(0)", Check.NO_SUCH_ELEMENT, () -> x.pieces(0));
        CHECK.due("new: longest(0, 0)", Check.NO_SUCH_ELEMENT, () -> x.longest(0, 0));
        CHECK.due("new: matches(0, 0, 0)", Check.NO_SUCH_ELEMENT, () -> x.matches(0, 0, 0) ? 1 : 0);
        CHECK.due("new: drop()", 0, x::drop);
        CHECK.due("new: erase()", 0, x::erase);
        CHECK.due("new: read()", Check.ILLEGAL_ARGUMENT, x::read);
        CHECK.due("new: place() behind read", 0, x::place);
    }

    private static void writeCountsCharacters() {
        AbnfChart x = new AbnfChart();
        CHECK.due("write 8", 8, () -> x.write(Check.pack("a = \"x\" "), 8));
        CHECK.due("write 1", 9, () -> x.write(Check.pack("/"), 1));
        CHECK.due("write 3 more", 12, () -> x.write(Check.pack("\"y\""), 3));
        CHECK.due("read what was written", 1, x::read);
        CHECK.due("erase", 12, x::erase);
    }

    private static void writeTakesTheLowestByteFirst() {
        AbnfChart x = new AbnfChart();
        long bytes = 'q' | (long) '=' << 8 | (long) 'z' << 16 | 7L << 24;
        CHECK.due("write with a byte too high up to count", 3, () -> x.write(bytes, 3));
        CHECK.due("read", 2, x::read);
        CHECK.due("rule(q)", 0, () -> x.rule('q'));
        CHECK.due("rule(z)", 1, () -> x.rule('z'));
    }

    private static void writeRefusesWrongCounts() {
        AbnfChart x = new AbnfChart();
        int[] wrong = {0, -1, 9, 16, Integer.MIN_VALUE, Integer.MAX_VALUE};
        for (int n : wrong) {
            CHECK.due("write n = " + n, Check.ILLEGAL_ARGUMENT, () -> x.write(0x2020202020202020L, n));
        }
        CHECK.due("nothing written", 0, x::erase);
    }

    /** "one of them is no character": each code, as each one of the n lowest bytes, and above them. */
    private static void writeRefusesWrongCharacters() {
        for (int code = 0; code < 256; code++) {
            boolean fine = code == 10 || code >= 32 && code <= 126;
            AbnfChart x = new AbnfChart();
            for (int k = 0; k < 8; k++) {
                long eight = 0x2020202020202020L & ~(255L << 8 * k) | (long) code << 8 * k;
                int below = k;
                String where = "code " + code + " as byte " + k + ": ";
                CHECK.due(where + "write 8", fine ? 8 : Check.ILLEGAL_ARGUMENT, () -> x.write(eight, 8));
                CHECK.due(where + "erase", fine ? 8 : 0, x::erase);
                CHECK.due(where + "write up to it", fine ? k + 1 : Check.ILLEGAL_ARGUMENT, () -> x.write(eight, below + 1));
                CHECK.due(where + "erase", fine ? k + 1 : 0, x::erase);
                CHECK.due(where + "write those below", k == 0 ? Check.ILLEGAL_ARGUMENT : k, () -> x.write(eight, below));
                CHECK.due(where + "erase", k, x::erase);
            }
        }
    }

    private static void writeRefusesMoreThan240() {
        AbnfChart x = new AbnfChart();
        Check.write(x, " ".repeat(236));
        CHECK.due("5 at 236", Check.ILLEGAL_STATE, () -> x.write(Check.pack("     "), 5));
        CHECK.due("4 at 236", 240, () -> x.write(Check.pack("    "), 4));
        CHECK.due("1 at 240", Check.ILLEGAL_STATE, () -> x.write(' ', 1));
        CHECK.due("no character at 240", Check.ILLEGAL_ARGUMENT, () -> x.write(9, 1));
        CHECK.due("n = 0 at 240", Check.ILLEGAL_ARGUMENT, () -> x.write(' ', 0));
        CHECK.due("read of spaces", Check.ILLEGAL_ARGUMENT, x::read);
        CHECK.due("place at the end of spaces", 240, x::place);
        CHECK.due("erase", 240, x::erase);
        CHECK.due("erase again", 0, x::erase);
        CHECK.due("write behind erase", 1, () -> x.write(' ', 1));
    }

    private static void eraseCounts() {
        for (int length = 0; length <= 240; length++) {
            AbnfChart x = Check.written("x".repeat(length));
            CHECK.due("erase of " + length, length, x::erase);
            CHECK.due("erase again", 0, x::erase);
            CHECK.due("read of nothing", Check.ILLEGAL_ARGUMENT, x::read);
            CHECK.due("place in nothing", 0, x::place);
        }
    }

    private static void eraseLeavesTheGrammar() {
        AbnfChart x = Check.made("a=\"x\" b", "x");
        CHECK.due("erase", 7, x::erase);
        CHECK.due("rules behind erase", 2, () -> x.count(0));
        CHECK.due("rule(b) behind erase", 1, () -> x.rule('b'));
        Check.write(x, "b=\"zz\"");
        CHECK.due("rules behind write", 2, () -> x.count(0));
        CHECK.due("told rules behind write", 1, () -> x.count(2));
        CHECK.due("input behind erase", 1, x::drop);
        AbnfChart y = Check.made("a=\"xyz\" / %d65.66", "xyzAB");
        y.erase();
        Check.write(y, "b=\"QQQ\" ; QQQQQQ");
        CHECK.due("strings stay behind erase", 3, () -> y.longest(0, 0));
        CHECK.due("values stay behind erase", 5, () -> y.longest(0, 3));
    }

    /** "An object is used for at most 512 calls after it has been made": 64 rounds of eight. */
    private static void answersUpToThe512thCall() {
        AbnfChart x = new AbnfChart();
        for (int k = 0; k < 64; k++) {
            boolean fine = k % 2 == 0;
            String round = "round " + k + ": ";
            CHECK.due(round + "write", 8, () -> x.write(Check.pack(fine ? "a=*\"xy\"\n" : "a=*\"xy\"!"), 8));
            CHECK.due(round + "read", fine ? 1 : Check.ILLEGAL_ARGUMENT, x::read);
            CHECK.due(round + "place", fine ? AbnfChart.NONE : 7, x::place);
            CHECK.due(round + "give", 4, () -> x.give(Check.pack("xyXY"), 4));
            CHECK.due(round + "pieces", fine ? 8 : Check.NO_SUCH_ELEMENT, () -> x.pieces(0));
            CHECK.due(round + "count", fine ? 4 : 0, () -> x.count(1));
            CHECK.due(round + "drop", 4, x::drop);
            CHECK.due(round + "erase", 8, x::erase);
        }
    }
}
