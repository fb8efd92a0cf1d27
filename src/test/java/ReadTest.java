/** Promises 4 to 6 and 12: read, place, rule and count, with what the terms say of a grammar. */
public final class ReadTest {
    private static final Check CHECK = new Check();

    public static void main(String[] args) {
        wellFormed();
        linesAndGaps();
        illCharacters();
        illNamesAndRepeats();
        illStringsAndValues();
        toldTwiceOrNever();
        tooManyNames();
        tooManyBrackets();
        tooManyElements();
        firstFaultCounts();
        placeFollowsTheLatestRead();
        noGrammarBehindAFault();
        ruleNumbers();
        countRefusesOthers();
        CHECK.end();
    }

    private static void wellFormed() {
        CHECK.well("a=b", 2, 3, 1);
        CHECK.well("a=a", 1, 3, 1);
        CHECK.well("A=a", 1, 3, 1);
        CHECK.well("a=\"\"", 1, 3, 1);
        CHECK.well("a=(b)", 2, 5, 1);
        CHECK.well("a=[b]", 2, 6, 1);
        CHECK.well("a=1b", 2, 4, 1);
        CHECK.well("a=b c", 3, 4, 1);
        CHECK.well("a=b/c", 3, 5, 1);
        CHECK.well("a=*b 3c 0*9d *2\"x\" 4*%d1", 4, 12, 1);
        CHECK.well("a=%s\"x\" %S\"y\" %d0 %D127 %x7F %X7f %d1-2 %x0-7f %d1.2 %x1.2.3 %d1.2.3.127", 1, 13, 1);
        CHECK.well("a=\"123456789012\"", 1, 3, 1);
        CHECK.well("a=\" !#[]%;/()~\"", 1, 3, 1);
        CHECK.well("abcdef=a-1-2- Z9", 3, 4, 1);
        CHECK.well("a=b\nb=a", 2, 6, 2);
        // Each alternatives is an element, that behind =/ too.
        CHECK.well("a=b\na=/c", 3, 6, 1);
        CHECK.well("a=b/c\nA=/a\nb=a", 3, 11, 2);
        CHECK.well("a=((((((b))))))", 2, 15, 1);
        CHECK.well("a=([([([b])])])", 2, 18, 1);
        CHECK.well("a=(b) (c)", 3, 8, 1);
    }

    private static void linesAndGaps() {
        CHECK.well("\n\na=b", 2, 3, 1);
        CHECK.well("   \n ;c\n;\na=b", 2, 3, 1);
        CHECK.well("a=b\n", 2, 3, 1);
        CHECK.well("a=b\n\n", 2, 3, 1);
        CHECK.well("a=b \n   ", 2, 3, 1);
        CHECK.well("a=b;c", 2, 3, 1);
        CHECK.well("a=b ; c\n ;d", 2, 3, 1);
        CHECK.well("a = b", 2, 3, 1);
        CHECK.well("a  =  b  ", 2, 3, 1);
        CHECK.well("a;x\n =;y\n b", 2, 3, 1);
        CHECK.well("a=\n b", 2, 3, 1);
        CHECK.well("a=\n\n;c\n  ;d\n b", 2, 3, 1);
        CHECK.well("a=b;=\n c", 3, 4, 1);
        CHECK.well("a=b\n c\nd=e", 5, 7, 2);
        CHECK.well("a=b\n\n  \n;c\nd=e", 4, 6, 2);
        CHECK.well("a=b\n /\n c", 3, 5, 1);
        CHECK.well("a=( b / c )", 3, 7, 1);
        CHECK.well("a=(\n b\n /;x\n c\n )", 3, 7, 1);
        CHECK.well("a=[ b\n\n ]", 2, 6, 1);
        CHECK.well("a=b / c/d /e", 5, 9, 1);
        CHECK.well("a=b\na =/ c", 3, 6, 1);
        CHECK.ill("", 0);
        CHECK.ill("\n", 1);
        CHECK.ill("   ", 3);
        CHECK.ill(" ;c", 3);
        CHECK.ill(" a=b", 0);
        CHECK.ill("\n a=b", 1);
        CHECK.ill("  \n;c\n  a=b", 6);
        // A line end that the next full line does not begin behind with a space is no gap.
        CHECK.ill("a\n=b", 1);
        CHECK.ill("a=\nb", 2);
        CHECK.ill("a=\n", 2);
        CHECK.ill("a=(b\nc)", 4);
        CHECK.ill("a=(b\n)", 4);
        CHECK.ill("a=(b \n\n;c\n)", 5);
        CHECK.ill("a=(b\n", 4);
        CHECK.ill("a=(b\n  \n ;c", 4);
        CHECK.ill("a=b/\nc=d", 4);
        CHECK.ill("a=b/ ;c\nc=d", 7);
        CHECK.ill("a=b\n c=d", 6);
        CHECK.ill("a=b\n\n c=d", 7);
    }

    private static void illCharacters() {
        CHECK.ill("a", 1);
        CHECK.ill("a ", 2);
        CHECK.ill("a b", 2);
        CHECK.ill("a;=b", 4);
        CHECK.ill("a=", 2);
        CHECK.ill("a= ", 3);
        CHECK.ill("a=/", 0);
        CHECK.ill("a= /b", 3);
        CHECK.ill("a=b=", 3);
        CHECK.ill("a=b c=d", 5);
        CHECK.ill("a=b/", 4);
        CHECK.ill("a=b / ", 6);
        CHECK.ill("a=b//c", 4);
        CHECK.ill("a=b)", 3);
        CHECK.ill("a=b ]", 4);
        CHECK.ill("a=()", 3);
        CHECK.ill("a=( )", 4);
        CHECK.ill("a=[]", 3);
        CHECK.ill("a=(b]", 4);
        CHECK.ill("a=[b)", 4);
        CHECK.ill("a=(b", 4);
        CHECK.ill("a=(b ", 5);
        CHECK.ill("a=(b/", 5);
        CHECK.ill("a=(b c/d e", 10);
        CHECK.ill("a=b(c)", 3);
        CHECK.ill("a=(b)c", 5);
        CHECK.ill("a=(b)(c)", 5);
        CHECK.ill("a=[b]\"c\"", 5);
        CHECK.ill("a=\"b\"\"c\"", 5);
        CHECK.ill("a=\"b\"%d1", 5);
        CHECK.ill("a=%d1\"b\"", 5);
        CHECK.ill("a=%d1 !", 6);
        CHECK.ill("a=b\n=c", 4);
        CHECK.ill("a=b\n;\n\"c\"", 6);
        CHECK.ill("a=b\n1=c", 4);
        CHECK.ill("-a=b", 0);
        CHECK.ill("1a=b", 0);
        CHECK.ill("=b", 0);
        CHECK.ill("a=-b", 2);
        CHECK.ill("a=<b>", 2);
    }

    private static void illNamesAndRepeats() {
        CHECK.ill("abcdefg=b", 6);
        CHECK.ill("a=abcdefg", 8);
        CHECK.ill("a_b=c", 1);
        CHECK.ill("a=1 b", 3);
        CHECK.ill("a=12b", 3);
        CHECK.ill("a=1*23b", 5);
        CHECK.ill("a=**b", 3);
        CHECK.ill("a=1**b", 4);
        CHECK.ill("a=1", 3);
        CHECK.ill("a=*", 3);
        CHECK.ill("a=9*", 4);
        CHECK.ill("a=1*2", 5);
        CHECK.ill("a=1/b", 3);
        CHECK.ill("a=* b", 3);
        CHECK.ill("a=*;c\n b", 3);
        CHECK.ill("a=2*1b", 2);
        CHECK.ill("a=b 9*8c", 4);
        CHECK.ill("a=(1*0b)", 3);
        CHECK.ill("a=3*2", 2);
        CHECK.well("a=0b", 2, 4, 1);
        CHECK.well("a=0*0b 9*9b *0b", 2, 8, 1);
    }

    private static void illStringsAndValues() {
        CHECK.ill("a=\"", 3);
        CHECK.ill("a=\"b", 4);
        CHECK.ill("a=\"b\n c\"", 4);
        CHECK.ill("a=\"1234567890123\"", 15);
        CHECK.ill("a=\"123456789012", 15);
        CHECK.ill("a=%", 3);
        CHECK.ill("a=%q", 3);
        CHECK.ill("a=%\"b\"", 3);
        CHECK.ill("a=% d1", 3);
        CHECK.ill("a=%i\"b\"", 3);
        CHECK.ill("a=%b1", 3);
        CHECK.ill("a=%s", 4);
        CHECK.ill("a=%sb", 4);
        CHECK.ill("a=%s \"b\"", 4);
        CHECK.ill("a=%d", 4);
        CHECK.ill("a=%x", 4);
        CHECK.ill("a=%dA", 4);
        CHECK.ill("a=%xG", 4);
        CHECK.ill("a=%d12A", 6);
        CHECK.ill("a=%d1234", 7);
        CHECK.ill("a=%d0001", 7);
        CHECK.ill("a=%x123", 6);
        CHECK.ill("a=%x007", 6);
        CHECK.ill("a=%d1-", 6);
        CHECK.ill("a=%d1-x", 6);
        CHECK.ill("a=%d1.", 6);
        CHECK.ill("a=%d1.x", 6);
        CHECK.ill("a=%d1-2-3", 7);
        CHECK.ill("a=%d1-2.3", 7);
        CHECK.ill("a=%d1.2-3", 7);
        CHECK.ill("a=%d1.2.3.4.5", 11);
        CHECK.ill("a=%d1..2", 6);
        CHECK.ill("a=%d1 -2", 6);
        CHECK.ill("a=%d128", 2);
        CHECK.ill("a=%d999", 2);
        CHECK.ill("a=%x80", 2);
        CHECK.ill("a=%xff", 2);
        CHECK.ill("a=b 2%d128", 5);
        CHECK.ill("a=%d1.128", 2);
        CHECK.ill("a=%d1.2.3.200", 2);
        CHECK.ill("a=%d128.1", 2);
        CHECK.ill("a=%d1-128", 2);
        CHECK.ill("a=%d9-8", 2);
        CHECK.ill("a=b %x10-0F", 4);
        CHECK.well("a=%d9-9", 1, 3, 1);
    }

    private static void toldTwiceOrNever() {
        CHECK.ill("a=b\na=c", 4);
        CHECK.ill("a=b\nA =c", 4);
        CHECK.ill("a=b\n\n;\nb=c\na=d", 11);
        CHECK.ill("a=/b", 0);
        CHECK.ill("a=b\nb=/c", 4);
        CHECK.ill("a=b\nc=/c", 4);
        CHECK.ill("a=b\na=", 4);
        CHECK.well("a=b\nb=c\nb=/d\na=/e", 5, 12, 2);
    }

    private static void tooManyNames() {
        CHECK.well("a=b c d e f g h i j k l", 12, 13, 1);
        CHECK.tooMuch("a=b c d e f g h i j k l m", 24);
        CHECK.tooMuch("a=b c d e f g h i j k l\nmn=a", 24);
        CHECK.tooMuch("a=b c d e f g h i j k (l 2[m])", 27);
        CHECK.well("a=b c d e f g h i j k l\nl=A B", 12, 17, 2);
        // The name is read before what is behind it.
        CHECK.tooMuch("a=b c d e f g h i j k l\nm!", 24);
        CHECK.tooMuch("a=b c d e f g h i j k l abcdefg", 24);
    }

    private static void tooManyBrackets() {
        CHECK.tooMuch("a=(((((((b)))))))", 8);
        CHECK.tooMuch("a=[[[[[[[b]]]]]]]", 8);
        CHECK.tooMuch("a=([([([ (b)])])])", 9);
        CHECK.tooMuch("a=(((((([", 8);
        CHECK.well("a=((((((b)))))) ((((((b))))))", 2, 28, 1);
        CHECK.well("a=(((((( b ) (c) ))))) [(((([d]))))]", 4, 33, 1);
        CHECK.ill("a=((((((", 8);
    }

    private static void tooManyElements() {
        // 1 + 2 for each alternative of one name.
        CHECK.well("a=" + "a/".repeat(48) + "a", 1, 99, 1);
        CHECK.well("a=" + "a/".repeat(48) + "a a", 1, 100, 1);
        CHECK.tooMuch("a=" + "a/".repeat(48) + "a a a", 102);
        CHECK.tooMuch("a=" + "a/".repeat(48) + "a / a", 102);
        CHECK.tooMuch("a=" + "a/".repeat(48) + "a a/a", 102);
        CHECK.tooMuch("a=" + "a/".repeat(48) + "a a 2(a)", 102);
        CHECK.tooMuch("a=" + "a/".repeat(48) + "a 2\"x\"", 101);
        CHECK.tooMuch("a=" + "a/".repeat(48) + "a a \"x\"", 102);
        CHECK.tooMuch("a=" + "a/".repeat(48) + "a a %s\"x\"", 102);
        CHECK.tooMuch("a=" + "a/".repeat(48) + "a a %d5", 102);
        CHECK.tooMuch("a=" + "a/".repeat(48) + "a a [a]", 102);
        CHECK.tooMuch("a=" + "a/".repeat(48) + "a [ a]", 102);
        CHECK.tooMuch("a=" + "a/".repeat(48) + "a a ( a)", 104);
        CHECK.tooMuch("a=" + "a/".repeat(48) + "a ( a)", 102);
        CHECK.tooMuch("a=" + "a/".repeat(48) + "a a\na=/ a", 106);
        CHECK.tooMuch("a=" + "a/".repeat(48) + "a a\nb=a", 104);
        CHECK.tooMuch("a=" + "1\"\"/".repeat(33) + "1\"\"", 134);
    }

    private static void firstFaultCounts() {
        CHECK.tooMuch("a=(((((((!", 8);
        CHECK.ill("a=! (((((((b)))))))", 2);
        CHECK.ill("a=b c d e f g h i j k l ! m", 24);
        CHECK.ill("a=" + "a/".repeat(48) + "a a !", 102);
        CHECK.ill("a=" + "a/".repeat(48) + "a a / !", 104);
        CHECK.tooMuch("a=" + "a/".repeat(48) + "a a a !", 102);
        CHECK.ill("a=3*2b %d999", 2);
        CHECK.ill("a=%d999 3*2b", 2);
    }

    private static void placeFollowsTheLatestRead() {
        AbnfChart x = Check.written("a=b c=d");
        CHECK.due("place before read", AbnfChart.NONE, x::place);
        CHECK.due("read", Check.ILLEGAL_ARGUMENT, x::read);
        CHECK.due("place", 5, x::place);
        CHECK.due("erase", 7, x::erase);
        CHECK.due("place stays behind erase", 5, x::place);
        Check.write(x, "a=b");
        CHECK.due("place stays behind write", 5, x::place);
        CHECK.due("read", 2, x::read);
        CHECK.due("place behind a read that did not throw", AbnfChart.NONE, x::place);
        Check.write(x, "+");
        CHECK.due("place behind write", AbnfChart.NONE, x::place);
        CHECK.due("read", Check.ILLEGAL_ARGUMENT, x::read);
        CHECK.due("place", 3, x::place);
    }

    private static void noGrammarBehindAFault() {
        AbnfChart x = Check.made("a=b\nb=\"x\"", "x");
        CHECK.due("rule(b)", 1, () -> x.rule('b'));
        CHECK.due("pieces(1)", 1, () -> x.pieces(1));
        Check.write(x, "!");
        CHECK.due("read", Check.ILLEGAL_ARGUMENT, x::read);
        CHECK.due("rule(a) without grammar", Check.NO_SUCH_ELEMENT, () -> x.rule('a'));
        CHECK.due("pieces without grammar", Check.NO_SUCH_ELEMENT, () -> x.pieces(0));
        CHECK.due("longest without grammar", Check.NO_SUCH_ELEMENT, () -> x.longest(0, 9));
        CHECK.due("matches without grammar", Check.NO_SUCH_ELEMENT, () -> x.matches(0, 9, 0) ? 1 : 0);
        CHECK.due("count without grammar", 0, () -> x.count(1));
        x.erase();
        Check.write(x, "c=\"x\"");
        CHECK.due("read", 1, x::read);
        CHECK.due("old names are gone", Check.NO_SUCH_ELEMENT, () -> x.rule('a'));
        CHECK.due("pieces of the new one", 1, () -> x.pieces(0));
        CHECK.due("no second rule", Check.NO_SUCH_ELEMENT, () -> x.pieces(1));
    }

    private static void ruleNumbers() {
        AbnfChart x = Check.written("list=item B-2\nB-2=abcdef / List\nitem=\"x\"");
        CHECK.due("read", 4, x::read);
        CHECK.due("rule(list)", 0, () -> x.rule(Check.pack("list")));
        CHECK.due("rule(item)", 1, () -> x.rule(Check.pack("item")));
        CHECK.due("rule(b-2)", 2, () -> x.rule(Check.pack("b-2")));
        CHECK.due("rule(abcdef)", 3, () -> x.rule(Check.pack("abcdef")));
        CHECK.due("rule(B-2)", Check.NO_SUCH_ELEMENT, () -> x.rule(Check.pack("B-2")));
        CHECK.due("rule(lis)", Check.NO_SUCH_ELEMENT, () -> x.rule(Check.pack("lis")));
        CHECK.due("rule(lists)", Check.NO_SUCH_ELEMENT, () -> x.rule(Check.pack("lists")));
        CHECK.due("rule(abcdefg)", Check.NO_SUCH_ELEMENT, () -> x.rule(Check.pack("abcdefg")));
        CHECK.due("rule(0)", Check.NO_SUCH_ELEMENT, () -> x.rule(0));
        CHECK.due("rule(-1)", Check.NO_SUCH_ELEMENT, () -> x.rule(-1));
        CHECK.due("told rules", 3, () -> x.count(2));
    }

    private static void countRefusesOthers() {
        AbnfChart x = Check.written("a=b");
        int[] others = {-1, 3, Integer.MIN_VALUE, Integer.MAX_VALUE};
        for (int what : others) {
            CHECK.due("count without grammar " + what, Check.INDEX_OUT_OF_BOUNDS, () -> x.count(what));
        }
        x.read();
        for (int what : others) {
            CHECK.due("count " + what, Check.INDEX_OUT_OF_BOUNDS, () -> x.count(what));
        }
    }
}
