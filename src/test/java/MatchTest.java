/** Promises 9 to 11: matches, longest and pieces, with what the terms say of matching. */
public final class MatchTest {
    private static final Check CHECK = new Check();

    public static void main(String[] args) {
        strings();
        values();
        sequencesAndAlternatives();
        optionsAndGroups();
        repetitions();
        emptyPieces();
        rulesThatBeginWithThemselves();
        rulesNotTold();
        furtherAlternatives();
        wrongRulesAndPlaces();
        fewestMatches();
        emptyInput();
        longestInput();
        everyPieceOfTheLongestInput();
        nothingIsLeftOfTheInputBefore();
        nothingIsLeftOfTheGrammarBefore();
        readAgain();
        CHECK.end();
    }

    private static void strings() {
        CHECK.found("a=\"aB\"", "aBABabAb", "0-2 2-4 4-6 6-8");
        CHECK.found("a=%s\"aB\"", "aBABabAb", "0-2");
        CHECK.found("a=%S\"A\"", "aA", "1-2");
        CHECK.found("a=\"[`@{\"", "[`@{{`@[", "0-4");
        CHECK.found("a=\"abc\"", "ab", "");
        CHECK.found("a=\"aZ\"", "AzaZ", "0-2 2-4");
        CHECK.found("a=\"Az\"", "aZAz", "0-2 2-4");
        CHECK.found("a=\"123456789012\"", "1234567890123", "0-12");
        CHECK.found("a=\"a;b\"", "a;b", "0-3");
        CHECK.found("a=\" \"", " x ", "0-1 2-3");
    }

    private static void values() {
        CHECK.found("a=%d97", "aA", "0-1");
        CHECK.found("a=%x41", "aA", "1-2");
        CHECK.found("a=%x4a.4B.4c.4D", "JKLMJKLm", "0-4");
        CHECK.found("a=%d65-67", "@ABCDabc", "1-2 2-3 3-4");
        CHECK.found("a=%d65-65", "AB", "0-1");
        CHECK.found("a=%d0", "\0a", "0-1");
        CHECK.found("a=%x7F", "\u007f~", "0-1");
        CHECK.found("a=%d0-127", "\0\u007f\n", "0-1 1-2 2-3");
        CHECK.found("a=%d010", "\n", "0-1");
        CHECK.found("a=%d65", "", "");
    }

    private static void sequencesAndAlternatives() {
        CHECK.found("a=\"x\" \"y\" \"z\"", "xyzxy", "0-3");
        CHECK.found("a=\"x\" / \"xy\" / \"y\"", "xy", "0-1 0-2 1-2");
        CHECK.found("a=\"x\" / \"x\"", "x", "0-1");
        CHECK.found("a=\"x\" \"y\" / \"z\"", "xyz", "0-2 2-3");
        CHECK.found("a=b c\nb=\"x\" / \"xx\"\nc=\"x\" / \"xx\"", "xxxx", "0-2 0-3 0-4 1-3 1-4 2-4");
    }

    private static void optionsAndGroups() {
        CHECK.found("a=[\"x\"]", "xy", "0-0 0-1 1-1 2-2");
        CHECK.found("a=\"x\" [\"y\" / \"z\"] \"w\"", "xywxwxzw", "0-3 3-5 5-8");
        CHECK.found("a=\"x\" (\"y\" / \"z\") \"w\"", "xywxwxzw", "0-3 5-8");
        CHECK.found("a=(\"x\" / \"y\") (\"x\" / \"y\")", "xyz", "0-2");
        CHECK.found("a=[[\"x\"]]", "x", "0-0 0-1 1-1");
    }

    private static void repetitions() {
        CHECK.found("a=2\"x\"", "xxx", "0-2 1-3");
        CHECK.found("a=1*2\"x\"", "xxx", "0-1 0-2 1-2 1-3 2-3");
        CHECK.found("a=*1\"x\"", "xy", "0-0 0-1 1-1 2-2");
        CHECK.found("a=2*\"x\"", "xxxx", "0-2 0-3 0-4 1-3 1-4 2-4");
        CHECK.found("a=*\"x\"", "xyx", "0-0 0-1 1-1 2-2 2-3 3-3");
        CHECK.found("a=0\"x\"", "x", "0-0 1-1");
        CHECK.found("a=*0\"x\"", "x", "0-0 1-1");
        CHECK.found("a=9\"x\"", "xxxxxxxxxx", "0-9 1-10");
        CHECK.found("a=2(\"x\" / \"yy\")", "xyyx", "0-3 1-4");
        CHECK.found("a=1*2(\"x\" \"y\")", "xyxyxy", "0-2 0-4 2-4 2-6 4-6");
        CHECK.found("a=\"x\" 2b\nb=\"y\" / \"yy\"", "xyyyy", "0-3 0-4 0-5");
    }

    private static void emptyPieces() {
        CHECK.found("a=\"\"", "xy", "0-0 1-1 2-2");
        CHECK.found("a=3[\"x\"]", "xx", "0-0 0-1 0-2 1-1 1-2 2-2");
        CHECK.found("a=5\"\"", "x", "0-0 1-1");
        CHECK.found("a=9*(*\"x\")", "xx", "0-0 0-1 0-2 1-1 1-2 2-2");
        CHECK.found("a=*(*(*\"x\"))", "xx", "0-0 0-1 0-2 1-1 1-2 2-2");
        CHECK.found("a=b b\nb=[\"x\"]", "x", "0-0 0-1 1-1");
    }

    private static void rulesThatBeginWithThemselves() {
        CHECK.found("a=a \"x\" / \"x\"", "xxx", "0-1 0-2 0-3 1-2 1-3 2-3");
        CHECK.found("a=a a / \"x\"", "xxx", "0-1 0-2 0-3 1-2 1-3 2-3");
        CHECK.found("a=b \"y\" / \"z\"\nb=a \"x\"", "zxyxy", "0-1 0-3 0-5");
        CHECK.found("a=[a] \"x\"", "xx", "0-1 0-2 1-2");
        CHECK.found("a=*a \"x\"", "xx", "0-1 0-2 1-2");
        CHECK.found("a=a", "x", "");
        CHECK.found("a=a / \"x\"", "x", "0-1");
        CHECK.found("a=a \"x\"", "xx", "");
        CHECK.found("a=1*a", "x", "");
        CHECK.found("a=*a", "x", "0-0 1-1");
        CHECK.found("a=b\nb=c\nc=a / \"x\" a / \"\"", "xx", "0-0 0-1 0-2 1-1 1-2 2-2");
        CHECK.found("a=\"(\" a \")\" / \"\"", "(())()", "0-0 0-4 1-1 1-3 2-2 3-3 4-4 4-6 5-5 6-6");
        CHECK.found("a=a \"+\" b / b\nb=\"1\"", "1+1+1", "0-1 0-3 0-5 2-3 2-5 4-5");
    }

    private static void rulesNotTold() {
        AbnfChart x = Check.made("a=b / \"x\" [c] / *d", "x");
        CHECK.due("matches of a rule not told", 0, () -> x.matches(1, 0, 0) ? 1 : 0);
        CHECK.due("longest of a rule not told", AbnfChart.NONE, () -> x.longest(2, 1));
        CHECK.due("pieces of a rule not told", 0, () -> x.pieces(3));
        CHECK.due("pieces of the told one", 3, () -> x.pieces(0));
        CHECK.found("a=\"x\" b", "x", "");
        CHECK.found("a=0b", "x", "0-0 1-1");
    }

    private static void furtherAlternatives() {
        CHECK.found("a=\"x\"\na=/\"y\"\nA=/\"z\" \"z\"", "xyzz", "0-1 1-2 2-4");
        CHECK.found("a=b\nb=\"x\"\na=/a \"y\"", "xyy", "0-1 0-2 0-3");
    }

    private static void wrongRulesAndPlaces() {
        AbnfChart x = Check.made("a=*\"x\"\nb=a", "xxx");
        int[] noRules = {-1, 2, 12, Integer.MIN_VALUE, Integer.MAX_VALUE};
        for (int rule : noRules) {
            CHECK.due("matches rule " + rule, Check.NO_SUCH_ELEMENT, () -> x.matches(rule, 0, 0) ? 1 : 0);
            CHECK.due("matches rule and places " + rule, Check.NO_SUCH_ELEMENT, () -> x.matches(rule, -1, 9) ? 1 : 0);
            CHECK.due("longest rule " + rule, Check.NO_SUCH_ELEMENT, () -> x.longest(rule, 0));
            CHECK.due("longest rule and place " + rule, Check.NO_SUCH_ELEMENT, () -> x.longest(rule, 4));
            CHECK.due("pieces rule " + rule, Check.NO_SUCH_ELEMENT, () -> x.pieces(rule));
        }
        int[][] noPieces = {{-1, 0}, {-1, -1}, {1, 0}, {3, 2}, {0, 4}, {4, 4}, {0, -1},
            {Integer.MIN_VALUE, Integer.MAX_VALUE}, {0, Integer.MAX_VALUE}, {32, 32}};
        for (int[] piece : noPieces) {
            CHECK.due("matches " + piece[0] + ", " + piece[1], Check.INDEX_OUT_OF_BOUNDS,
                () -> x.matches(1, piece[0], piece[1]) ? 1 : 0);
        }
        int[] noPlaces = {-1, 4, 32, Integer.MIN_VALUE, Integer.MAX_VALUE};
        for (int place : noPlaces) {
            CHECK.due("longest " + place, Check.INDEX_OUT_OF_BOUNDS, () -> x.longest(1, place));
        }
        CHECK.due("matches at the end", 1, () -> x.matches(1, 3, 3) ? 1 : 0);
        CHECK.due("longest at the end", 3, () -> x.longest(1, 3));
    }

    /** "These are the fewest matches for which all that is so": a rule that only needs itself has none. */
    private static void fewestMatches() {
        String[] nothing = {"a=a", "a=(a)", "a=a/a", "a=a a", "a=2a", "a=1*a", "a=9*9a", "a=b\nb=a", "a=b\nb=c\nc=a b/a",
            "a=\"\" a", "a=a \"\"", "a=\"x\" a", "a=a \"x\"", "a=[a] a", "a=*a a", "a=[\"x\"] a [\"x\"]", "a=1*3a/b a\nb=[a]"};
        for (String grammar : nothing) {
            CHECK.found(grammar, "xx", "");
            CHECK.found(grammar, "", "");
        }
        String[] onlyEmpty = {"a=[a]", "a=*a", "a=0a", "a=*0a", "a=1*[a]", "a=9*9[a]", "a=a/\"\"", "a=a a/\"\"", "a=b\nb=[a]"};
        for (String grammar : onlyEmpty) {
            CHECK.found(grammar, "xx", "0-0 1-1 2-2");
            CHECK.found(grammar, "", "0-0");
        }
        CHECK.found("a=[a] [a] \"x\"", "xxx", "0-1 0-2 0-3 1-2 1-3 2-3");
        CHECK.found("a=2a/\"x\"", "xxx", "0-1 0-2 0-3 1-2 1-3 2-3");
        CHECK.found("a=3a/\"x\"", "xxxx", "0-1 0-3 1-2 1-4 2-3 3-4");
        CHECK.found("a=2*3a \"y\"/\"x\"", "xxyxy", "0-1 0-3 0-5 1-2 3-4");
    }

    private static void emptyInput() {
        CHECK.found("a=\"\"", "", "0-0");
        CHECK.found("a=\"x\"", "", "");
        CHECK.found("a=%d0", "", "");
        CHECK.found("a=[\"x\"]", "", "0-0");
        CHECK.found("a=*\"x\"", "", "0-0");
        CHECK.found("a=1*\"x\"", "", "");
        CHECK.found("a=9[\"x\"]", "", "0-0");
        CHECK.found("a=\"\" \"\"", "", "0-0");
    }

    private static void everyPieceOfTheLongestInput() {
        String[] grammars = {"a=a a/\"x\"", "a=[a] \"x\"", "a=\"x\" *a", "a=2*9(a/\"x\")/\"x\"", "a=b\nb=c\nc=a \"x\"/\"x\""};
        for (String grammar : grammars) {
            AbnfChart x = Check.made(grammar, "x".repeat(24));
            for (int i = 0; i <= 24; i++) {
                for (int j = i; j <= 24; j++) {
                    int from = i;
                    int to = j;
                    CHECK.due(grammar + " from " + i + " to " + j, i < j ? 1 : 0, () -> x.matches(0, from, to) ? 1 : 0);
                }
                int from = i;
                CHECK.due(grammar + " longest " + i, i < 24 ? 24 : AbnfChart.NONE, () -> x.longest(0, from));
            }
            CHECK.due(grammar + " pieces", 300, () -> x.pieces(0));
        }
    }

    private static void longestInput() {
        AbnfChart x = Check.made("a=a a / \"x\"\nb=*%d0-127\nc=9*\"x\"", "x".repeat(24));
        CHECK.due("all pieces but the empty ones", 300, () -> x.pieces(0));
        CHECK.due("all pieces", 325, () -> x.pieces(1));
        CHECK.due("pieces of nine and more", 136, () -> x.pieces(2));
        CHECK.due("the whole", 1, () -> x.matches(0, 0, 24) ? 1 : 0);
        CHECK.due("longest", 24, () -> x.longest(0, 0));
        CHECK.due("longest at the end", AbnfChart.NONE, () -> x.longest(0, 24));
        AbnfChart most = Check.made("a=" + "a/".repeat(48) + "*\"x\"", "x".repeat(24));
        CHECK.due("as many elements as there may be", 100, () -> most.count(1));
        CHECK.due("all their pieces", 325, () -> most.pieces(0));
    }

    /** Matches of an input before must not hold one another up where rules begin with themselves. */
    private static void nothingIsLeftOfTheInputBefore() {
        String[] grammars = {"a=a/\"x\"", "a=[a] \"x\"", "a=b\nb=a/\"x\"", "a=a a/\"x\"", "a=1*a/\"x\"", "a=b/\"x\"\nb=c\nc=(a)"};
        for (String grammar : grammars) {
            AbnfChart x = Check.made(grammar, "xx");
            CHECK.due(grammar + " on xx", 1, () -> x.matches(0, 0, 1) && x.matches(0, 1, 2) ? 1 : 0);
            x.drop();
            Check.give(x, "yy");
            CHECK.due(grammar + " on yy", 0, () -> x.pieces(0));
            x.give('x', 1);
            CHECK.due(grammar + " on yyx", 1, () -> x.pieces(0));
            CHECK.due(grammar + " on yyx at 2", 3, () -> x.longest(0, 2));
            x.drop();
            CHECK.due(grammar + " on nothing", 0, () -> x.pieces(0));
            Check.give(x, "yx");
            CHECK.due(grammar + " on yx", 1, () -> x.pieces(0));
        }
    }

    private static void nothingIsLeftOfTheGrammarBefore() {
        String[] grammars = {"a=a/\"x\"", "a=[a] \"x\"", "a=*\"x\"", "b=c\nc=d b\nd=%d0-127", "a=a a/\"x\""};
        for (String grammar : grammars) {
            AbnfChart x = Check.made(grammar, "xx");
            x.pieces(0);
            x.erase();
            Check.write(x, "a=a/a a/b\nb=c/a\nc=a b");
            x.read();
            for (int rule = 0; rule < 3; rule++) {
                int number = rule;
                CHECK.due("rule " + rule + " matches nothing behind " + grammar, 0, () -> x.pieces(number));
            }
        }
    }

    /** Nothing of a grammar before may be left in the next one. */
    private static void readAgain() {
        AbnfChart x = Check.made("a=\"x\" \"y\" 2(\"z\" / b)\nb=\"w\"", "xyzw");
        CHECK.due("first grammar", 4, () -> x.longest(0, 0));
        String[] grammars = {"b=\"y\" / c\nb=/2*3%d122-123", "a=c c\nc=[\"x\"] / d", "d=*(\"x\" / \"z\" / \"y\")",
            "e=%x78 / %s\"y\" e", "f=1*2%x78-79 f / \"z\""};
        int[] elements = {9, 12, 10, 6, 7};
        int[] pieces = {1, 6, 11, 1, 3};
        for (int k = 0; k < 20; k++) {
            int which = k % grammars.length;
            x.erase();
            Check.write(x, grammars[which]);
            x.read();
            CHECK.due("elements of " + grammars[which], elements[which], () -> x.count(1));
            CHECK.due("pieces of " + grammars[which], pieces[which], () -> x.pieces(0));
        }
        x.erase();
        String full = "\"a\" ".repeat(58);
        for (int k = 0; k < 5; k++) {
            Check.write(x, "a=" + full);
            CHECK.due("read of many strings again", 1, x::read);
            CHECK.due("elements of many strings again", 60, () -> x.count(1));
            x.erase();
        }
        Check.write(x, "a=\"xyzw\"");
        CHECK.due("read of one string", 1, x::read);
        CHECK.due("the one string matches", 4, () -> x.longest(0, 0));
    }
}
