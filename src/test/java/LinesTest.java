/** The terms' sentences on texts, lines, comments, gaps and where rules begin and end. */
public final class LinesTest {
    private static final Check CHECK = new Check();
    private static final String[] BLANKS = {"", " ", "     ", ";", ";x", " ;", "   ; a=b", ";;", "; \"([%"};
    private static final String[] GAPS = {"", " ", "    ", ";\n ", ";c\n  ", " ;c\n ", "\n ", "\n\n ", "\n   \n ",
        "\n;c\n ", "\n  ;c\n   ", "\n;\n \n\n  ;;\n "};

    public static void main(String[] args) {
        textsUpTo240();
        charactersOfAText();
        commentsGoToTheLinesEnd();
        blankLines();
        linesThatAreNotBlank();
        gapsWhereTheyMayBe();
        gapsWhereTheyMayNotBe();
        lineEndsThatAreNoGap();
        rulesEnd();
        rulesBeginLines();
        atLeastOneRule();
        noSpaceBeforeTheFirstRule();
        CHECK.end();
    }

    /** "A GRAMMAR is a text of at most 240 characters". */
    private static void textsUpTo240() {
        CHECK.well("a=b" + " ".repeat(237), 2, 3, 1);
        CHECK.well("a=" + " ".repeat(237) + "b", 2, 3, 1);
        CHECK.well("a=b;" + "c".repeat(236), 2, 3, 1);
        CHECK.well("a=b" + "\n".repeat(237), 2, 3, 1);
        CHECK.well("\n".repeat(237) + "a=b", 2, 3, 1);
        CHECK.well("a=b\n" + " ".repeat(233) + "c\n ", 3, 4, 1);
        CHECK.well("a=\"" + "x".repeat(12) + "\"" + " \"xxxxxxxxxxxx\"".repeat(14) + ";".repeat(14), 1, 17, 1);
        CHECK.ill("a=" + " ".repeat(237) + "!", 239);
        CHECK.ill("a=b" + " ".repeat(236) + "!", 239);
        CHECK.ill("a=" + " ".repeat(238), 240);
        CHECK.ill("a" + " ".repeat(238) + "=", 240);
        CHECK.ill("a=(b" + " ".repeat(236), 240);
        CHECK.ill("\n".repeat(240), 240);
        CHECK.ill(";".repeat(240), 240);
        CHECK.ill("a=b" + "\n".repeat(236) + "c", 240);
        CHECK.ill("a=b" + "\n".repeat(236) + "!", 239);
        AbnfChart x = Check.written("a=b" + " ".repeat(237));
        CHECK.due("a 241st character", Check.ILLEGAL_STATE, () -> x.write('!', 1));
        CHECK.due("read without it", 2, x::read);
    }

    /** "32 .. 126, and 10 (a LINE END)": each of them can be read somewhere. */
    private static void charactersOfAText() {
        for (char code = 32; code <= 126; code++) {
            CHECK.well("a=b;" + code, 2, 3, 1);
            CHECK.well(";" + code + "\na=b", 2, 3, 1);
        }
        CHECK.well(";\na=b", 2, 3, 1);
    }

    /** "Comments are ";" and what follows up to the line's end." */
    private static void commentsGoToTheLinesEnd() {
        CHECK.well("a=b;c\nd=e", 4, 6, 2);
        CHECK.well("a=b;c\n d", 3, 4, 1);
        CHECK.well("a=b;", 2, 3, 1);
        CHECK.well("a=b;c;d\n e;f", 3, 4, 1);
        CHECK.well("a;=(\n =c", 2, 3, 1);
        CHECK.well("a=b;\"\n \"c\";\"", 2, 4, 1);
        CHECK.well("a=\";\" b", 2, 4, 1);
        CHECK.well("a=\";\"", 1, 3, 1);
        CHECK.ill("a=;b", 4);
        CHECK.ill("a=(b;)", 6);
        CHECK.ill("a;=b", 4);
        CHECK.ill(";a=b", 4);
        CHECK.ill("a=\"b;\n", 5);
    }

    /** "A line that has nothing but spaces and a comment is BLANK." */
    private static void blankLines() {
        for (String blank : BLANKS) {
            CHECK.well(blank + "\na=b", 2, 3, 1);
            CHECK.well("\n" + blank + "\n\na=b", 2, 3, 1);
            CHECK.well("a=b\n" + blank, 2, 3, 1);
            CHECK.well("a=b\n" + blank + "\n", 2, 3, 1);
            CHECK.well("a=b\n" + blank + "\nc=d", 4, 6, 2);
            CHECK.well("a=b\n" + blank + "\n c", 3, 4, 1);
            CHECK.well("a=\n" + blank + "\n b", 2, 3, 1);
            CHECK.ill("a=\n" + blank + "\nb", 2);
            CHECK.ill("a=(b\n" + blank, 4);
            CHECK.ill(blank, blank.length());
            CHECK.ill(blank + "\n" + blank, 2 * blank.length() + 1);
        }
    }

    private static void linesThatAreNotBlank() {
        CHECK.ill("a=b\n!;c", 4);
        CHECK.ill("a=b\n !;c", 5);
        CHECK.ill("!;c\na=b", 0);
        CHECK.ill(" x ;c\na=b", 0);
        CHECK.ill("a=b\nx;c\nc=d", 7);
        CHECK.well("a=b\n x;c\nc=d", 5, 7, 2);
    }

    /** "A GAP is any spaces, comments and blank lines, and line ends, if ..": none at all, too. */
    private static void gapsWhereTheyMayBe() {
        for (String gap : GAPS) {
            String g = gap;
            CHECK.well("a" + g + "=b", 2, 3, 1);
            CHECK.well("a=" + g + "b", 2, 3, 1);
            CHECK.well("a=b" + g, 2, 3, 1);
            CHECK.well("a=b" + g + "\nc=d", 4, 6, 2);
            CHECK.well("a=b\na" + g + "=/" + g + "c" + g, 3, 6, 1);
            CHECK.well("a=b" + g + "/c", 3, 5, 1);
            CHECK.well("a=b/" + g + "c", 3, 5, 1);
            CHECK.well("a=(" + g + "b)", 2, 5, 1);
            CHECK.well("a=(b" + g + ")", 2, 5, 1);
            CHECK.well("a=[" + g + "b]", 2, 6, 1);
            CHECK.well("a=[b" + g + "]", 2, 6, 1);
            if (g.isEmpty()) {
                CHECK.ill("a=\"x\"" + g + "b", 5);
                CHECK.ill("a=(b)" + g + "[c]", 5);
            } else {
                CHECK.well("a=\"x\"" + g + "b", 2, 4, 1);
                CHECK.well("a=(b)" + g + "[c]", 3, 9, 1);
            }
        }
    }

    private static void gapsWhereTheyMayNotBe() {
        CHECK.ill("a=1 b", 3);
        CHECK.ill("a=1 *b", 3);
        CHECK.ill("a=1* 2b", 4);
        CHECK.ill("a=1*2 b", 5);
        CHECK.ill("a=* b", 3);
        CHECK.ill("a=*;\n b", 3);
        CHECK.ill("a=% d1", 3);
        CHECK.ill("a=%d 1", 4);
        CHECK.ill("a=%d1 -2", 6);
        CHECK.ill("a=%d1- 2", 6);
        CHECK.ill("a=%d1 .2", 6);
        CHECK.ill("a=%d1. 2", 6);
        CHECK.ill("a=% s\"b\"", 3);
        CHECK.ill("a=%s \"b\"", 4);
        CHECK.ill("a= /b", 3);
        CHECK.ill("a=b\na= /c", 4);
        CHECK.ill("a= =b", 3);
        CHECK.ill("a b=c", 2);
        // Here the gap is none, but a name's end.
        CHECK.well("a=b c", 3, 4, 1);
    }

    /** ".. if the next line that is not blank begins with a space." */
    private static void lineEndsThatAreNoGap() {
        CHECK.ill("a\n=b", 1);
        CHECK.ill("a=\nb", 2);
        CHECK.ill("a=b/\nc", 4);
        CHECK.ill("a=(\nb)", 3);
        CHECK.ill("a=(b\n)", 4);
        CHECK.ill("a=[\nb]", 3);
        CHECK.ill("a=[b\n]", 4);
        CHECK.ill("a=b\n/c", 4);
        CHECK.ill("a=\n  \nb", 2);
        CHECK.ill("a= ;c\n ;d\nb", 5);
        CHECK.ill("a=\n b/\nc", 6);
        CHECK.ill("a\n", 1);
        CHECK.ill("a=\n", 2);
        CHECK.ill("a=\n ", 2);
        CHECK.ill("a=\n ;", 2);
        CHECK.ill("a=b/\n\n", 4);
        CHECK.ill("a=2\n b", 3);
        CHECK.ill("a=\"b\n \"", 4);
    }

    /** "A rule ENDS at the end of the text, and at a line end, if ..". */
    private static void rulesEnd() {
        CHECK.well("a=b", 2, 3, 1);
        CHECK.well("a=b\n", 2, 3, 1);
        CHECK.well("a=b\n\n\n", 2, 3, 1);
        CHECK.well("a=b\n ", 2, 3, 1);
        CHECK.well("a=b\n ;c\n   ", 2, 3, 1);
        CHECK.well("a=b\nc=d", 4, 6, 2);
        CHECK.well("a=b\n\n;\n  \nc=d", 4, 6, 2);
        CHECK.well("a=b\n c", 3, 4, 1);
        CHECK.well("a=b\n\n;\n  \n c", 3, 4, 1);
        CHECK.ill("a=b\n c=d", 6);
        CHECK.ill("a=b\n\n;\n  \n c=d", 12);
        CHECK.ill("a=b\n)", 4);
        CHECK.ill("a=b\n\"c\"", 4);
        CHECK.ill("a=b\n;\n%d1", 6);
    }

    /** "rules, each from the beginning of a line on, one behind the other". */
    private static void rulesBeginLines() {
        CHECK.well("a=b\nb=c\nc=d\nd=a", 4, 12, 4);
        CHECK.ill("a=b b=c", 5);
        CHECK.ill("a=b;\n b=c", 7);
        CHECK.ill("a=b\nb=c d=e", 9);
        CHECK.ill("a=b\n\n  b=c", 8);
    }

    /** "at least one". */
    private static void atLeastOneRule() {
        CHECK.ill("", 0);
        CHECK.ill("\n", 1);
        CHECK.ill(" ", 1);
        CHECK.ill(";", 1);
        CHECK.ill(" ;c\n\n  ", 7);
        CHECK.well("a=a", 1, 3, 1);
    }

    /** "a space at the beginning of the first line that is not blank can't be read". */
    private static void noSpaceBeforeTheFirstRule() {
        CHECK.ill(" a=b", 0);
        CHECK.ill("   a=b", 0);
        CHECK.ill("\n a=b", 1);
        CHECK.ill("  \n  a=b", 3);
        CHECK.ill(";c\n;d\n a=b", 6);
        CHECK.ill(" a=b\nc=d", 0);
        CHECK.well("  \na=b", 2, 3, 1);
    }
}
