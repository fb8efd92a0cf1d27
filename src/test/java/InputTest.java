/** Promises 7 and 8: give and drop. */
public final class InputTest {
    private static final Check CHECK = new Check();

    public static void main(String[] args) {
        giveCountsCharacters();
        giveTakesTheLowestByteFirst();
        giveRefusesWrongCounts();
        giveRefusesCodesAbove127();
        giveRefusesMoreThan24();
        dropCounts();
        dropEmptiesTheInput();
        inputAndGrammarAreApart();
        CHECK.end();
    }

    private static void giveCountsCharacters() {
        AbnfChart x = new AbnfChart();
        CHECK.due("give 8", 8, () -> x.give(0, 8));
        CHECK.due("give 1", 9, () -> x.give(127, 1));
        CHECK.due("give 5", 14, () -> x.give(Check.pack("abcde"), 5));
        CHECK.due("drop", 14, x::drop);
    }

    private static void giveTakesTheLowestByteFirst() {
        AbnfChart x = Check.made("a=%d0.127 \"b\"", "");
        long bytes = 127L << 8 | (long) 'b' << 16 | 255L << 24;
        CHECK.due("give with a byte too high up to count", 3, () -> x.give(bytes, 3));
        CHECK.due("matched in this order", 3, () -> x.longest(0, 0));
    }

    private static void giveRefusesWrongCounts() {
        AbnfChart x = new AbnfChart();
        int[] wrong = {0, -1, 9, 24, Integer.MIN_VALUE, Integer.MAX_VALUE};
        for (int n : wrong) {
            CHECK.due("give n = " + n, Check.ILLEGAL_ARGUMENT, () -> x.give(0, n));
        }
        CHECK.due("nothing given", 0, x::drop);
    }

    /** "one of them is above 127": each code, as each one of the n lowest bytes, and above them. */
    private static void giveRefusesCodesAbove127() {
        for (int code = 0; code < 256; code++) {
            boolean fine = code <= 127;
            AbnfChart x = new AbnfChart();
            for (int k = 0; k < 8; k++) {
                long eight = (long) code << 8 * k;
                int below = k;
                String where = "code " + code + " as byte " + k + ": ";
                CHECK.due(where + "give 8", fine ? 8 : Check.ILLEGAL_ARGUMENT, () -> x.give(eight, 8));
                CHECK.due(where + "drop", fine ? 8 : 0, x::drop);
                CHECK.due(where + "give up to it", fine ? k + 1 : Check.ILLEGAL_ARGUMENT, () -> x.give(eight, below + 1));
                CHECK.due(where + "drop", fine ? k + 1 : 0, x::drop);
                CHECK.due(where + "give those below", k == 0 ? Check.ILLEGAL_ARGUMENT : k, () -> x.give(eight, below));
                CHECK.due(where + "drop", k, x::drop);
            }
        }
    }

    private static void giveRefusesMoreThan24() {
        AbnfChart x = Check.made("a=*%d0-127", "x".repeat(20));
        CHECK.due("5 at 20", Check.ILLEGAL_STATE, () -> x.give(Check.pack("xxxxx"), 5));
        CHECK.due("still 20", 20, () -> x.longest(0, 0));
        CHECK.due("4 at 20", 24, () -> x.give(Check.pack("xxxx"), 4));
        CHECK.due("1 at 24", Check.ILLEGAL_STATE, () -> x.give('x', 1));
        CHECK.due("128 at 24", Check.ILLEGAL_ARGUMENT, () -> x.give(128, 1));
        CHECK.due("n = 9 at 24", Check.ILLEGAL_ARGUMENT, () -> x.give(0, 9));
        CHECK.due("24 matched", 24, () -> x.longest(0, 0));
    }

    private static void dropCounts() {
        for (int length = 0; length <= 24; length++) {
            AbnfChart x = Check.made("a=*%d0-127", "x".repeat(length));
            int most = length;
            CHECK.due("longest of " + length, length, () -> x.longest(0, 0));
            CHECK.due("place behind the end of " + length, Check.INDEX_OUT_OF_BOUNDS, () -> x.longest(0, most + 1));
            CHECK.due("drop of " + length, length, x::drop);
            CHECK.due("drop again", 0, x::drop);
            CHECK.due("longest of nothing", 0, () -> x.longest(0, 0));
            CHECK.due("place behind nothing", Check.INDEX_OUT_OF_BOUNDS, () -> x.longest(0, 1));
            CHECK.due("the grammar stays", 1, () -> x.count(0));
        }
    }

    private static void dropEmptiesTheInput() {
        AbnfChart x = Check.made("a=*\"x\"", "xxx");
        CHECK.due("longest", 3, () -> x.longest(0, 0));
        CHECK.due("drop", 3, x::drop);
        CHECK.due("drop again", 0, x::drop);
        CHECK.due("pieces of nothing", 1, () -> x.pieces(0));
        CHECK.due("longest behind drop", 0, () -> x.longest(0, 0));
        CHECK.due("place 1 is gone", Check.INDEX_OUT_OF_BOUNDS, () -> x.longest(0, 1));
        CHECK.due("give", 2, () -> x.give(Check.pack("yx"), 2));
        CHECK.due("pieces of yx", 4, () -> x.pieces(0));
        CHECK.due("give behind", 3, () -> x.give('x', 1));
        CHECK.due("pieces of yxx", 7, () -> x.pieces(0));
    }

    private static void inputAndGrammarAreApart() {
        AbnfChart x = new AbnfChart();
        Check.give(x, "aa");
        Check.write(x, "a=1*\"a\"");
        CHECK.due("read", 1, x::read);
        CHECK.due("input given before read", 3, () -> x.pieces(0));
        x.erase();
        Check.write(x, "a=\"b\"");
        CHECK.due("read again", 1, x::read);
        CHECK.due("pieces of the new grammar", 0, () -> x.pieces(0));
        CHECK.due("the input stays", 2, x::drop);
    }
}
