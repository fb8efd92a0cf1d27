/** The terms' sentence on TOO MUCH, on what an ELEMENT is, and on names asked for and not told. */
public final class LimitsTest {
    private static final Check CHECK = new Check();
    /** 99 elements: alternatives, and 49 times a sequence of a name. It is 99 characters long. */
    private static final String ELEMENTS_99 = "a=" + "a/".repeat(48) + "a";

    public static void main(String[] args) {
        twelveNamesTold();
        twelveNamesAskedFor();
        twelveNamesTogether();
        sixBrackets();
        bracketsOneBehindTheOther();
        whatAnElementIs();
        hundredElements();
        theHundredAndFirstOfEachKind();
        elementsOfSeveralRules();
        askedForAndNotTold();
        firstFault();
        CHECK.end();
    }

    /** "a name would be the 13th (told or asked for)". */
    private static void twelveNamesTold() {
        StringBuilder text = new StringBuilder();
        for (int k = 0; k < 12; k++) {
            char name = (char) ('a' + k);
            text.append(name).append('=').append(name).append('\n');
            CHECK.well(text.toString(), k + 1, 3 * k + 3, k + 1);
        }
        CHECK.well(text + "l=/A", 12, 39, 12);
        CHECK.tooMuch(text + "m=m", 48);
        CHECK.tooMuch(text + "m=a", 48);
        CHECK.tooMuch(text + "\n;\naa=a", 51);
        CHECK.ill(text + "l=a", 48);
    }

    private static void twelveNamesAskedFor() {
        CHECK.well("a=b c d e f g h i j k l", 12, 13, 1);
        CHECK.well("a=b/c/d/e/f/g/h/i/j/k/l", 12, 23, 1);
        CHECK.well("a=b c d e f g h i j k l L a b c B C", 12, 19, 1);
        CHECK.tooMuch("a=b c d e f g h i j k l m", 24);
        CHECK.tooMuch("a=b c d e f g h i j k l l m", 26);
        CHECK.tooMuch("a=b/c/d/e/f/g/h/i/j/k/l/m", 24);
        CHECK.tooMuch("a=b c d e f g h i j k l 3*4m", 27);
        CHECK.tooMuch("a=b c d e f g h i j k l ([m])", 26);
        CHECK.tooMuch("a=b c d e f g h i j k l ll", 24);
    }

    private static void twelveNamesTogether() {
        CHECK.well("a=b c d\nb=e f g\nc=h i j\nd=k l a", 12, 20, 4);
        CHECK.tooMuch("a=b c d\nb=e f g\nc=h i j\nd=k l m", 30);
        CHECK.tooMuch("a=b c d\nb=e f g\nc=h i j\nd=k l a\nm=a", 32);
        AbnfChart x = Check.written("a=b c d\nb=e f g\nc=h i j\nd=k l a");
        x.read();
        for (int k = 0; k < 12; k++) {
            int number = k;
            CHECK.due("rule number " + k, number, () -> x.rule('a' + number));
            CHECK.due("pieces of rule " + k, 0, () -> x.pieces(number));
        }
        CHECK.due("pieces of rule 12", Check.NO_SUCH_ELEMENT, () -> x.pieces(12));
    }

    /** ""(" and "[" would be seven within one another": in every mixture of the two. */
    private static void sixBrackets() {
        for (int mixture = 0; mixture < 128; mixture++) {
            CHECK.tooMuch("a=" + nested(mixture, 7), 8);
            CHECK.tooMuch("a=b / c " + nested(mixture, 7), 14);
            if (mixture < 64) {
                int options = Integer.bitCount(mixture);
                CHECK.well("a=" + nested(mixture, 6), 2, 15 + options, 1);
            }
        }
        CHECK.tooMuch("a=( ( ( ( ( ( ( b ) ) ) ) ) ) )", 14);
        CHECK.tooMuch("a=(((((([", 8);
        CHECK.tooMuch("a=(((((( b 2(c) ))))))", 12);
        CHECK.ill("a=((((((", 8);
        CHECK.ill("a=(((((())))))", 8);
    }

    private static String nested(int mixture, int depth) {
        StringBuilder text = new StringBuilder("b");
        for (int k = 0; k < depth; k++) {
            boolean option = (mixture >> k & 1) == 1;
            text.insert(0, option ? '[' : '(').append(option ? ']' : ')');
        }
        return text.toString();
    }

    private static void bracketsOneBehindTheOther() {
        CHECK.well("a=(b) (b) (b) (b) (b) (b) (b) (b)", 2, 26, 1);
        CHECK.well("a=[b] [b] [b] [b] [b] [b] [b] [b]", 2, 34, 1);
        CHECK.well("a=((((((b)))))) / ((((((b))))))", 2, 29, 1);
        CHECK.well("a=((((((b) (b)) (b)) (b)) (b)) (b)) (b)", 2, 33, 1);
        CHECK.well("a=((((((b))))))\nb=((((((a))))))", 2, 30, 2);
        CHECK.well("a=((((((b) (b) [b])))))", 2, 22, 1);
    }

    /** "each alternatives, sequence, repetition with a repeat, option, string, value, and each name in a sequence". */
    private static void whatAnElementIs() {
        CHECK.well("a=b", 2, 3, 1);
        CHECK.well("a=\"\"", 1, 3, 1);
        CHECK.well("a=%s\"x\"", 1, 3, 1);
        CHECK.well("a=%d1", 1, 3, 1);
        CHECK.well("a=%d1-2", 1, 3, 1);
        CHECK.well("a=%d1.2.3.4", 1, 3, 1);
        CHECK.well("a=1b", 2, 4, 1);
        CHECK.well("a=*b", 2, 4, 1);
        CHECK.well("a=0*0b", 2, 4, 1);
        CHECK.well("a=(b)", 2, 5, 1);
        CHECK.well("a=[b]", 2, 6, 1);
        CHECK.well("a=2(b)", 2, 6, 1);
        CHECK.well("a=2[b]", 2, 7, 1);
        CHECK.well("a=b b", 2, 4, 1);
        CHECK.well("a=b/b", 2, 5, 1);
        CHECK.well("a=b\nc=d", 4, 6, 2);
    }

    /** "an ELEMENT would be the 101st". */
    private static void hundredElements() {
        CHECK.well(ELEMENTS_99, 1, 99, 1);
        CHECK.well(ELEMENTS_99 + " a", 1, 100, 1);
        CHECK.tooMuch(ELEMENTS_99 + " a a", 102);
        CHECK.well("a=" + "\"\" ".repeat(76) + "(\"\")", 1, 81, 1);
        CHECK.well("a=a" + " a".repeat(97), 1, 100, 1);
        CHECK.tooMuch("a=a" + " a".repeat(98), 198);
        CHECK.tooMuch("a=a" + " a".repeat(118), 198);
        CHECK.well("a=" + "1a ".repeat(49), 1, 100, 1);
        CHECK.tooMuch("a=" + "1a ".repeat(49) + "a", 149);
        CHECK.tooMuch("a=" + "1a ".repeat(49) + "1a", 149);
        CHECK.tooMuch("a=a " + "1a ".repeat(49), 149);
    }

    private static void theHundredAndFirstOfEachKind() {
        String[] elements = {"a", "\"x\"", "%s\"x\"", "%d5", "%x5-6", "%d1.2", "2a", "*(a)", "[a]", "[ a]"};
        for (String element : elements) {
            CHECK.tooMuch(ELEMENTS_99 + " a " + element, 102);
            CHECK.tooMuch(ELEMENTS_99 + " a / " + element, 104);
            CHECK.tooMuch(ELEMENTS_99 + " a (" + element + ")", 103);
        }
        // The 100th is the repetition, the option or the alternatives, the 101st what is in it.
        CHECK.tooMuch(ELEMENTS_99 + " 2\"x\"", 101);
        CHECK.tooMuch(ELEMENTS_99 + " 1*2a", 103);
        CHECK.tooMuch(ELEMENTS_99 + " 2[a]", 101);
        CHECK.tooMuch(ELEMENTS_99 + " 2(a)", 102);
        CHECK.tooMuch(ELEMENTS_99 + " [ a]", 102);
        CHECK.tooMuch(ELEMENTS_99 + " ( a)", 102);
        CHECK.tooMuch(ELEMENTS_99 + " ((a))", 101);
        CHECK.tooMuch(ELEMENTS_99 + "/ a", 101);
    }

    private static void elementsOfSeveralRules() {
        CHECK.well(ELEMENTS_99.substring(0, 97) + "\nb=b", 2, 100, 2);
        CHECK.tooMuch(ELEMENTS_99.substring(0, 97) + "\nb=b a", 102);
        CHECK.tooMuch(ELEMENTS_99 + "\nb=b", 102);
        CHECK.tooMuch(ELEMENTS_99 + " a\nb= b", 105);
        CHECK.tooMuch(ELEMENTS_99 + " a\na=/ b", 106);
        CHECK.tooMuch(ELEMENTS_99 + "\na=/b", 103);
        AbnfChart x = Check.written(ELEMENTS_99 + " a");
        CHECK.due("100 elements", 1, x::read);
        CHECK.due("100 elements again", 1, x::read);
        CHECK.due("counted once", 100, () -> x.count(1));
        Check.write(x, " a");
        CHECK.due("101 elements", Check.ILLEGAL_STATE, x::read);
        x.erase();
        Check.write(x, "a=b");
        CHECK.due("few elements behind too many", 2, x::read);
        CHECK.due("counted anew", 3, () -> x.count(1));
    }

    /** "A grammar is read WHOLE: rules that are asked for and not told match nothing." */
    private static void askedForAndNotTold() {
        AbnfChart x = Check.made("a=b / [c] / \"x\" d\nd=\"y\"", "xy");
        CHECK.due("rules", 4, () -> x.count(0));
        CHECK.due("told rules", 2, () -> x.count(2));
        for (int rule = 1; rule <= 2; rule++) {
            int number = rule;
            CHECK.due("rule " + rule, number, () -> x.rule('a' + number));
            CHECK.due("pieces of rule " + rule, 0, () -> x.pieces(number));
            for (int i = 0; i <= 2; i++) {
                int at = i;
                CHECK.due("longest of rule " + rule, AbnfChart.NONE, () -> x.longest(number, at));
                CHECK.due("the empty piece of rule " + rule, 0, () -> x.matches(number, at, at) ? 1 : 0);
            }
        }
        CHECK.due("told behind where it is asked for", 1, () -> x.matches(0, 0, 2) ? 1 : 0);
        CHECK.found("a=b", "", "");
        CHECK.found("a=1*b", "x", "");
        CHECK.found("a=*b", "x", "0-0 1-1");
        CHECK.found("a=[b] \"x\"", "x", "0-1");
        CHECK.found("a=b \"x\" / \"x\" b / \"x\"", "x", "0-1");
    }

    /** The text is read from left to right: what is behind a fault does not count. */
    private static void firstFault() {
        CHECK.tooMuch("a=(((((((!", 8);
        CHECK.ill("a=! (((((((b)))))))", 2);
        CHECK.ill("a=3*2b %d999", 2);
        CHECK.ill("a=%d999 3*2b", 2);
        CHECK.ill("a=b\na=(((((((b", 4);
        CHECK.tooMuch("a=(((((((b\na=b", 8);
        CHECK.tooMuch("a=b c d e f g h i j k l m !", 24);
        CHECK.ill("a=b c d e f g h i j k l ! m", 24);
        CHECK.ill(ELEMENTS_99 + " a !", 102);
        CHECK.tooMuch(ELEMENTS_99 + " a a !", 102);
        CHECK.ill(ELEMENTS_99 + " a / !", 104);
    }
}
