/** Promises 9 to 11: matches, longest and pieces, with what the terms say of matching. */
public final class MatchTest {
    private static final Check CHECK = new Check();

    public static void main(String[] args) {
        strings();
        values();
        sequencesAndAlternatives();
        optionsAndGroups();
        repetitions();
        emptyPieces();
        rulesThatBeginWithThemselves();
        rulesNotTold();
        furtherAlternatives();
        wrongRulesAndPlaces();
        longestInput();
        readAgain();
        CHECK.end();
    }

    /** The pieces of the first rule as a table: "i-j i-j ..", every other pair is no match. */
    private static void found(String grammar, String input, String pieces) {
        AbnfChart x = Check.made(grammar, input);
        String where = grammar.replace("\n", "\\n") + " on " + input + ": ";
        String padded = " " + pieces + " ";
        int total = 0;
        for (int i = 0; i <= input.length(); i++) {
            int last = AbnfChart.NONE;
            for (int j = i; j <= input.length(); j++) {
                int from = i;
                int to = j;
                boolean due = padded.contains(" " + i + "-" + j + " ");
                CHECK.due(where + "matches " + i + ", " + j, due ? 1 : 0, () -> x.matches(0, from, to) ? 1 : 0);
                total += due ? 1 : 0;
                last = due ? j : last;
            }
            int from = i;
            CHECK.due(where + "longest " + i, last, () -> x.longest(0, from));
        }
        CHECK.due(where + "pieces", total, () -> x.pieces(0));
    }

    private static void strings() {
        found("a=\"aB\"", "aBABabAb", "0-2 2-4 4-6 6-8");
        found("a=%s\"aB\"", "aBABabAb", "0-2");
        found("a=%S\"A\"", "aA", "1-2");
        found("a=\"[`@{\"", "[`@{{`@[", "0-4");
        found("a=\"abc\"", "ab", "");
        found("a=\"aZ\"", "AzaZ", "0-2 2-4");
        found("a=\"Az\"", "aZAz", "0-2 2-4");
        found("a=\"123456789012\"", "1234567890123", "0-12");
        found("a=\"a;b\"", "a;b", "0-3");
        found("a=\" \"", " x ", "0-1 2-3");
    }

    private static void values() {
        found("a=%d97", "aA", "0-1");
        found("a=%x41", "aA", "1-2");
        found("a=%x4a.4B.4c.4D", "JKLMJKLm", "0-4");
        found("a=%d65-67", "@ABCDabc", "1-2 2-3 3-4");
        found("a=%d65-65", "AB", "0-1");
        found("a=%d0", "\0a", "0-1");
        found("a=%x7F", "\u007f~", "0-1");
        found("a=%d0-127", "\0\u007f\n", "0-1 1-2 2-3");
        found("a=%d010", "\n", "0-1");
        found("a=%d65", "", "");
    }

    private static void sequencesAndAlternatives() {
        found("a=\"x\" \"y\" \"z\"", "xyzxy", "0-3");
        found("a=\"x\" / \"xy\" / \"y\"", "xy", "0-1 0-2 1-2");
        found("a=\"x\" / \"x\"", "x", "0-1");
        found("a=\"x\" \"y\" / \"z\"", "xyz", "0-2 2-3");
        found("a=b c\nb=\"x\" / \"xx\"\nc=\"x\" / \"xx\"", "xxxx", "0-2 0-3 0-4 1-3 1-4 2-4");
    }

    private static void optionsAndGroups() {
        found("a=[\"x\"]", "xy", "0-0 0-1 1-1 2-2");
        found("a=\"x\" [\"y\" / \"z\"] \"w\"", "xywxwxzw", "0-3 3-5 5-8");
        found("a=\"x\" (\"y\" / \"z\") \"w\"", "xywxwxzw", "0-3 5-8");
        found("a=(\"x\" / \"y\") (\"x\" / \"y\")", "xyz", "0-2");
        found("a=[[\"x\"]]", "x", "0-0 0-1 1-1");
    }

    private static void repetitions() {
        found("a=2\"x\"", "xxx", "0-2 1-3");
        found("a=1*2\"x\"", "xxx", "0-1 0-2 1-2 1-3 2-3");
        found("a=*1\"x\"", "xy", "0-0 0-1 1-1 2-2");
        found("a=2*\"x\"", "xxxx", "0-2 0-3 0-4 1-3 1-4 2-4");
        found("a=*\"x\"", "xyx", "0-0 0-1 1-1 2-2 2-3 3-3");
        found("a=0\"x\"", "x", "0-0 1-1");
        found("a=*0\"x\"", "x", "0-0 1-1");
        found("a=9\"x\"", "xxxxxxxxxx", "0-9 1-10");
        found("a=2(\"x\" / \"yy\")", "xyyx", "0-3 1-4");
        found("a=1*2(\"x\" \"y\")", "xyxyxy", "0-2 0-4 2-4 2-6 4-6");
        found("a=\"x\" 2b\nb=\"y\" / \"yy\"", "xyyyy", "0-3 0-4 0-5");
    }

    private static void emptyPieces() {
        found("a=\"\"", "xy", "0-0 1-1 2-2");
        found("a=3[\"x\"]", "xx", "0-0 0-1 0-2 1-1 1-2 2-2");
        found("a=5\"\"", "x", "0-0 1-1");
        found("a=9*(*\"x\")", "xx", "0-0 0-1 0-2 1-1 1-2 2-2");
        found("a=*(*(*\"x\"))", "xx", "0-0 0-1 0-2 1-1 1-2 2-2");
        found("a=b b\nb=[\"x\"]", "x", "0-0 0-1 1-1");
    }

    private static void rulesThatBeginWithThemselves() {
        found("a=a \"x\" / \"x\"", "xxx", "0-1 0-2 0-3 1-2 1-3 2-3");
        found("a=a a / \"x\"", "xxx", "0-1 0-2 0-3 1-2 1-3 2-3");
        found("a=b \"y\" / \"z\"\nb=a \"x\"", "zxyxy", "0-1 0-3 0-5");
        found("a=[a] \"x\"", "xx", "0-1 0-2 1-2");
        found("a=*a \"x\"", "xx", "0-1 0-2 1-2");
        found("a=a", "x", "");
        found("a=a / \"x\"", "x", "0-1");
        found("a=a \"x\"", "xx", "");
        found("a=1*a", "x", "");
        found("a=*a", "x", "0-0 1-1");
        found("a=b\nb=c\nc=a / \"x\" a / \"\"", "xx", "0-0 0-1 0-2 1-1 1-2 2-2");
        found("a=\"(\" a \")\" / \"\"", "(())()", "0-0 0-4 1-1 1-3 2-2 3-3 4-4 4-6 5-5 6-6");
        found("a=a \"+\" b / b\nb=\"1\"", "1+1+1", "0-1 0-3 0-5 2-3 2-5 4-5");
    }

    private static void rulesNotTold() {
        AbnfChart x = Check.made("a=b / \"x\" [c] / *d", "x");
        CHECK.due("matches of a rule not told", 0, () -> x.matches(1, 0, 0) ? 1 : 0);
        CHECK.due("longest of a rule not told", AbnfChart.NONE, () -> x.longest(2, 1));
        CHECK.due("pieces of a rule not told", 0, () -> x.pieces(3));
        CHECK.due("pieces of the told one", 3, () -> x.pieces(0));
        found("a=\"x\" b", "x", "");
        found("a=0b", "x", "0-0 1-1");
    }

    private static void furtherAlternatives() {
        found("a=\"x\"\na=/\"y\"\nA=/\"z\" \"z\"", "xyzz", "0-1 1-2 2-4");
        found("a=b\nb=\"x\"\na=/a \"y\"", "xyy", "0-1 0-2 0-3");
    }

    private static void wrongRulesAndPlaces() {
        AbnfChart x = Check.made("a=*\"x\"\nb=a", "xxx");
        int[] noRules = {-1, 2, 12, Integer.MIN_VALUE, Integer.MAX_VALUE};
        for (int rule : noRules) {
            CHECK.due("matches rule " + rule, Check.NO_SUCH_ELEMENT, () -> x.matches(rule, 0, 0) ? 1 : 0);
            CHECK.due("matches rule and places " + rule, Check.NO_SUCH_ELEMENT, () -> x.matches(rule, -1, 9) ? 1 : 0);
            CHECK.due("longest rule " + rule, Check.NO_SUCH_ELEMENT, () -> x.longest(rule, 0));
            CHECK.due("longest rule and place " + rule, Check.NO_SUCH_ELEMENT, () -> x.longest(rule, 4));
            CHECK.due("pieces rule " + rule, Check.NO_SUCH_ELEMENT, () -> x.pieces(rule));
        }
        int[][] noPieces = {{-1, 0}, {-1, -1}, {1, 0}, {3, 2}, {0, 4}, {4, 4}, {0, -1},
            {Integer.MIN_VALUE, Integer.MAX_VALUE}, {0, Integer.MAX_VALUE}, {32, 32}};
        for (int[] piece : noPieces) {
            CHECK.due("matches " + piece[0] + ", " + piece[1], Check.INDEX_OUT_OF_BOUNDS,
                () -> x.matches(1, piece[0], piece[1]) ? 1 : 0);
        }
        int[] noPlaces = {-1, 4, 32, Integer.MIN_VALUE, Integer.MAX_VALUE};
        for (int place : noPlaces) {
            CHECK.due("longest " + place, Check.INDEX_OUT_OF_BOUNDS, () -> x.longest(1, place));
        }
        CHECK.due("matches at the end", 1, () -> x.matches(1, 3, 3) ? 1 : 0);
        CHECK.due("longest at the end", 3, () -> x.longest(1, 3));
    }

    private static void longestInput() {
        AbnfChart x = Check.made("a=a a / \"x\"\nb=*%d0-127\nc=9*\"x\"", "x".repeat(24));
        CHECK.due("all pieces but the empty ones", 300, () -> x.pieces(0));
        CHECK.due("all pieces", 325, () -> x.pieces(1));
        CHECK.due("pieces of nine and more", 136, () -> x.pieces(2));
        CHECK.due("the whole", 1, () -> x.matches(0, 0, 24) ? 1 : 0);
        CHECK.due("longest", 24, () -> x.longest(0, 0));
        CHECK.due("longest at the end", AbnfChart.NONE, () -> x.longest(0, 24));
        AbnfChart most = Check.made("a=" + "a/".repeat(48) + "*\"x\"", "x".repeat(24));
        CHECK.due("as many elements as there may be", 100, () -> most.count(1));
        CHECK.due("all their pieces", 325, () -> most.pieces(0));
    }

    /** Nothing of a grammar before may be left in the next one. */
    private static void readAgain() {
        AbnfChart x = Check.made("a=\"x\" \"y\" 2(\"z\" / b)\nb=\"w\"", "xyzw");
        CHECK.due("first grammar", 4, () -> x.longest(0, 0));
        String[] grammars = {"b=\"y\" / c\nb=/2*3%d122-123", "a=c c\nc=[\"x\"] / d", "d=*(\"x\" / \"z\" / \"y\")",
            "e=%x78 / %s\"y\" e", "f=1*2%x78-79 f / \"z\""};
        int[] elements = {9, 12, 10, 6, 7};
        int[] pieces = {1, 6, 11, 1, 3};
        for (int k = 0; k < 20; k++) {
            int which = k % grammars.length;
            x.erase();
            Check.write(x, grammars[which]);
            x.read();
            CHECK.due("elements of " + grammars[which], elements[which], () -> x.count(1));
            CHECK.due("pieces of " + grammars[which], pieces[which], () -> x.pieces(0));
        }
        x.erase();
        String full = "\"a\" ".repeat(58);
        for (int k = 0; k < 5; k++) {
            Check.write(x, "a=" + full);
            CHECK.due("read of many strings again", 1, x::read);
            CHECK.due("elements of many strings again", 60, () -> x.count(1));
            x.erase();
        }
        Check.write(x, "a=\"xyzw\"");
        CHECK.due("read of one string", 1, x::read);
        CHECK.due("the one string matches", 4, () -> x.longest(0, 0));
    }
}
