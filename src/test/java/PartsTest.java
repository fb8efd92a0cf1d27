/** The terms' sentences on names, repeats, strings and values: what each may be, and what it matches. */
public final class PartsTest {
    private static final Check CHECK = new Check();
    private static final int CODES = 128;

    public static void main(String[] args) {
        rulesToldOnceAndFurther();
        alternativesAndSequences();
        namesOfOneToSix();
        charactersOfNames();
        capitalsOfNames();
        repeatsOfADigit();
        repeatsFromTo();
        repeatsWithOneBound();
        stringsUpTo12();
        charactersOfStrings();
        lettersOfStrings();
        everyDecimalNumber();
        everyHexadecimalNumber();
        digitsOfNumbers();
        rangesFromTo();
        rangesTheWrongWayRound();
        severalNumbers();
        wrongNumbersAnywhere();
        lettersBehindPercent();
        CHECK.end();
    }

    /** "ILL, too, when "=" stands behind a name that was told before, or "=/" behind one that was not". */
    private static void rulesToldOnceAndFurther() {
        CHECK.well("a=b\nb=a", 2, 6, 2);
        CHECK.well("a=b\na=/a", 2, 6, 1);
        CHECK.well("a=b\nb=c\na=/c\nb=/a\na=/a", 3, 15, 2);
        CHECK.ill("a=b\na=b", 4);
        CHECK.ill("a=b\nA  =b", 4);
        CHECK.ill("b=c\na=b\n\n;\na=c", 11);
        CHECK.ill("a=b\na=/c\na=d", 9);
        CHECK.ill("a=/b", 0);
        CHECK.ill("\n\na =/ b", 2);
        CHECK.ill("a=b\nb=/a", 4);
        CHECK.ill("a=b\nc=/a", 4);
        CHECK.ill("a=a\nb=/a", 4);
        CHECK.found("a=\"x\"\na=/\"y\"", "xyz", "0-1 1-2");
        CHECK.found("a=\"x\" b\nb=\"y\"\na=/b \"z\"", "xyz", "0-2 1-3");
    }

    private static void alternativesAndSequences() {
        CHECK.well("a=b", 2, 3, 1);
        CHECK.well("a=b/b", 2, 5, 1);
        CHECK.well("a=b/b/b/b/b/b", 2, 13, 1);
        CHECK.well("a=b b", 2, 4, 1);
        CHECK.well("a=b b b b b b", 2, 8, 1);
        CHECK.well("a=b b/b b b / b", 2, 10, 1);
        CHECK.ill("a=", 2);
        CHECK.ill("a=/", 0);
        CHECK.ill("a=b/", 4);
        CHECK.ill("a=b//b", 4);
        CHECK.ill("a=()", 3);
        CHECK.ill("a=[]", 3);
        CHECK.ill("a=(/b)", 3);
        CHECK.ill("a=(b/)", 5);
        CHECK.ill("a=[b", 4);
        CHECK.ill("a=b)", 3);
        CHECK.ill("a=[b)", 4);
        CHECK.ill("a=(b]", 4);
    }

    /** "NAME: a letter, and up to five letters, digits or "-"". */
    private static void namesOfOneToSix() {
        String most = "abcdefg";
        for (int length = 1; length <= 6; length++) {
            String name = most.substring(0, length);
            CHECK.well(name + "=" + name, 1, 3, 1);
            CHECK.well("z=" + name, 2, 3, 1);
            CHECK.well("z=" + name + "\n" + name + "=z", 2, 6, 2);
            AbnfChart x = Check.written(name + "=z");
            x.read();
            CHECK.due("rule(" + name + ")", 0, () -> x.rule(Check.pack(name)));
            CHECK.due("rule(" + name + ") less one", Check.NO_SUCH_ELEMENT,
                () -> x.rule(Check.pack(name.substring(1))));
            CHECK.due("rule(" + name + ") and one more", Check.NO_SUCH_ELEMENT, () -> x.rule(Check.pack(name + "a")));
        }
        CHECK.ill(most + "=a", 6);
        CHECK.ill("z=" + most, 8);
        CHECK.ill("a-----1=a", 6);
        CHECK.well("a----1=a", 2, 3, 1);
        CHECK.well("a-=a", 2, 3, 1);
    }

    private static void charactersOfNames() {
        for (char code = 33; code <= 126; code++) {
            if (Character.isLetter(code)) {
                CHECK.well(code + "=" + code, 1, 3, 1);
                CHECK.well("a1=" + code, 2, 3, 1);
            } else if (code != ';') {
                CHECK.ill(code + "=b", 0);
            }
            if (Character.isLetterOrDigit(code) || code == '-') {
                CHECK.well("a" + code + "=b", 2, 3, 1);
                CHECK.well("a1234" + code + "=b", 2, 3, 1);
            } else if (code != ';' && code != '=') {
                CHECK.ill("a" + code + "=b", 1);
                CHECK.ill("a=b" + code + "=", code == '/' ? 4 : 3);
            }
        }
        CHECK.ill("a==b", 2);
    }

    /** "capitals are as small ones". */
    private static void capitalsOfNames() {
        CHECK.well("a=A\nB=b", 2, 6, 2);
        CHECK.well("aZ-1=Az-1 AZ-1 az-1", 1, 5, 1);
        for (char letter = 'a'; letter <= 'z'; letter++) {
            char small = letter;
            char capital = Character.toUpperCase(letter);
            AbnfChart x = Check.written(capital + "1=1" + small + "1");
            CHECK.due("read of " + capital, 1, x::read);
            CHECK.due("rule of " + small, 0, () -> x.rule('1' << 8 | small));
            CHECK.due("rule of " + capital, Check.NO_SUCH_ELEMENT, () -> x.rule('1' << 8 | capital));
        }
    }

    /** "a digit (so many times)". */
    private static void repeatsOfADigit() {
        String ten = "xxxxxxxxxx";
        for (int times = 0; times <= 9; times++) {
            AbnfChart x = Check.made("a=" + times + "\"x\"", ten);
            String where = times + " times: ";
            int due = times;
            CHECK.due(where + "longest", due, () -> x.longest(0, 0));
            CHECK.due(where + "pieces", 11 - due, () -> x.pieces(0));
            CHECK.due(where + "elements", 4, () -> x.count(1));
            CHECK.ill("a=" + times, 3);
            CHECK.ill("a=" + times + "0b", 3);
            CHECK.ill("a=" + times + " b", 3);
        }
    }

    /** "from the first one .. to the last one times"; ILL with "a repeat's first digit above its last one". */
    private static void repeatsFromTo() {
        for (int low = 0; low <= 9; low++) {
            for (int high = 0; high <= 9; high++) {
                String text = "a=" + low + "*" + high + "\"x\"";
                if (low > high) {
                    CHECK.ill(text, 2);
                    CHECK.ill("a=b (c/ " + low + "*" + high + "d)", 8);
                } else {
                    timesFromTo(text, low, high);
                }
            }
        }
    }

    /** "perhaps a digit, "*", perhaps a digit": without the first one 0, without the last one no bound. */
    private static void repeatsWithOneBound() {
        for (int digit = 0; digit <= 9; digit++) {
            timesFromTo("a=*" + digit + "\"x\"", 0, digit);
            timesFromTo("a=" + digit + "*\"x\"", digit, 24);
        }
        timesFromTo("a=*\"x\"", 0, 24);
        CHECK.ill("a=*", 3);
        CHECK.ill("a=**b", 3);
        CHECK.ill("a=*1*b", 4);
        CHECK.ill("a=1*22b", 5);
        CHECK.ill("a=11*2b", 3);
        CHECK.ill("a=*)", 3);
    }

    private static void timesFromTo(String text, int low, int high) {
        AbnfChart x = Check.made(text, "x".repeat(24));
        int total = 0;
        for (int length = 0; length <= 24; length++) {
            int to = length;
            boolean fits = low <= length && length <= high;
            CHECK.due(text + " of " + length, fits ? 1 : 0, () -> x.matches(0, 0, to) ? 1 : 0);
            total += fits ? 25 - length : 0;
        }
        int pieces = total;
        CHECK.due(text + " pieces", pieces, () -> x.pieces(0));
        CHECK.due(text + " longest", high, () -> x.longest(0, 0));
        CHECK.due(text + " longest at the end", low == 0 ? 24 : AbnfChart.NONE, () -> x.longest(0, 24));
    }

    /** "perhaps %s, then ", up to 12 characters .. and "". */
    private static void stringsUpTo12() {
        for (int length = 0; length <= 12; length++) {
            String string = "123456789012".substring(0, length);
            CHECK.well("a=\"" + string + "\"", 1, 3, 1);
            CHECK.well("a=%s\"" + string + "\"", 1, 3, 1);
            CHECK.ill("a=\"" + string, 3 + length);
            CHECK.ill("a=%s\"" + string, 5 + length);
            CHECK.found("a=\"" + string + "\" \"x\"", string + "x", "0-" + (length + 1));
            CHECK.found("a=%s\"" + string + "\" \"x\"", string + "x", "0-" + (length + 1));
        }
        CHECK.ill("a=\"1234567890123\"", 15);
        CHECK.ill("a=%s\"1234567890123\"", 17);
        CHECK.ill("a=\"            \n", 15);
        CHECK.found("a=\"\"", "", "0-0");
        CHECK.found("a=\"\"", "x", "0-0 1-1");
    }

    /** "(32, 33, 35 .. 126)". */
    private static void charactersOfStrings() {
        for (char code = 32; code <= 126; code++) {
            if (code != '"') {
                CHECK.well("a=\"" + code + "\"", 1, 3, 1);
                CHECK.well("a=%s\"x" + code + "\"", 1, 3, 1);
            }
        }
        CHECK.ill("a=\"\"\"", 4);
        CHECK.ill("a=\"\n\"", 3);
        CHECK.ill("a=\"x\n \"", 4);
    }

    /** "Letters of a string match capitals and small ones, but for %s". */
    private static void lettersOfStrings() {
        for (char code = 32; code <= 126; code++) {
            if (code != '"') {
                matchedCodes("a=\"" + code + "\"", Character.toLowerCase(code), Character.toUpperCase(code));
                matchedCodes("a=%s\"" + code + "\"", code, code);
                matchedCodes("a=%S\"" + code + "\"", code, code);
            }
        }
    }

    /** Asks for each code whether the first rule matches it alone: one of the two, and no other. */
    private static void matchedCodes(String text, int one, int other) {
        AbnfChart x = Check.made(text, "");
        for (int from = 0; from < CODES; from += 24) {
            StringBuilder input = new StringBuilder();
            for (int code = from; code < CODES && code < from + 24; code++) {
                input.append((char) code);
            }
            x.drop();
            Check.give(x, input.toString());
            for (int k = 0; k < input.length(); k++) {
                int at = k;
                int code = from + k;
                long due = code == one || code == other ? k + 1 : AbnfChart.NONE;
                CHECK.due(text + " on code " + code, due, () -> x.longest(0, at));
            }
        }
    }

    /** "a number is above 127" for %d. */
    private static void everyDecimalNumber() {
        for (int number = 0; number <= 999; number++) {
            if (number > 127) {
                CHECK.ill("a=b %d" + number, 4);
            } else {
                CHECK.well("a=%d" + number, 1, 3, 1);
                matchedCodes("a=%d" + number, number, number);
            }
        }
    }

    private static void everyHexadecimalNumber() {
        for (int number = 0; number <= 255; number++) {
            String digits = Integer.toHexString(number);
            String two = number < 16 ? "0" + digits : digits;
            if (number > 127) {
                CHECK.ill("a=b %x" + digits, 4);
                CHECK.ill("a=b %X" + digits.toUpperCase(), 4);
            } else {
                matchedCodes("a=%x" + digits, number, number);
                matchedCodes("a=%x" + two.toUpperCase(), number, number);
            }
        }
    }

    /** "for %d one to three digits, for %x one or two hexadecimal ones (capitals or small)". */
    private static void digitsOfNumbers() {
        CHECK.well("a=%d7 %d07 %d007 %x7 %x07", 1, 7, 1);
        CHECK.ill("a=%d", 4);
        CHECK.ill("a=%d0007", 7);
        CHECK.ill("a=%d1270", 7);
        CHECK.ill("a=%x", 4);
        CHECK.ill("a=%x007", 6);
        CHECK.ill("a=%x7F0", 6);
        for (char code = 33; code <= 126; code++) {
            boolean digit = code >= '0' && code <= '9';
            boolean hexadecimal = digit || code >= 'a' && code <= 'f' || code >= 'A' && code <= 'F';
            if (!digit) {
                CHECK.ill("a=%d" + code, 4);
            }
            if (hexadecimal) {
                CHECK.well("a=%x" + code + " %x1" + code, 1, 4, 1);
            } else {
                CHECK.ill("a=%x" + code, 4);
            }
        }
        CHECK.ill("a=%d1a", 5);
        CHECK.ill("a=%x1g", 5);
    }

    /** "perhaps "-" and a number": "one from .. to". */
    private static void rangesFromTo() {
        CHECK.found("a=%d66-68", "ABCDE", "1-2 2-3 3-4");
        CHECK.found("a=%x42-44", "ABCDE", "1-2 2-3 3-4");
        CHECK.found("a=%d66-66", "ABC", "1-2");
        CHECK.found("a=%d0-0", "\0\1", "0-1");
        CHECK.found("a=%x7f-7F", "~\u007f", "1-2");
        CHECK.found("a=%d0-127", "\0\n~\u007f", "0-1 1-2 2-3 3-4");
        CHECK.found("a=%d65-90", "az", "");
        CHECK.found("a=%d0-127", "", "");
        CHECK.ill("a=%d1-", 6);
        CHECK.ill("a=%d1-b", 6);
        CHECK.ill("a=%d1-2-3", 7);
        CHECK.ill("a=%d1-2.3", 7);
        CHECK.ill("a=%d1-0012", 9);
        CHECK.ill("a=%x1-%x2", 6);
    }

    /** "a value's first one above its last one behind "-"". */
    private static void rangesTheWrongWayRound() {
        CHECK.well("a=%d5-5", 1, 3, 1);
        CHECK.well("a=%d5-6", 1, 3, 1);
        CHECK.ill("a=%d5-4", 2);
        CHECK.ill("a=%d127-0", 2);
        CHECK.ill("a=%d10-9", 2);
        CHECK.ill("a=%x10-F", 2);
        CHECK.ill("a=b 2%x7F-7e", 5);
        CHECK.well("a=%d127-127", 1, 3, 1);
        CHECK.well("a=%d9.8.7.6", 1, 3, 1);
    }

    /** "or up to three times "." and a number": "several one behind the other". */
    private static void severalNumbers() {
        CHECK.found("a=%d65", "ABCDE", "0-1");
        CHECK.found("a=%d65.66", "ABCDE", "0-2");
        CHECK.found("a=%d65.66.67", "ABCDE", "0-3");
        CHECK.found("a=%d65.66.67.68", "ABCDE", "0-4");
        CHECK.found("a=%x41.42.43.44", "abcdABCD", "4-8");
        CHECK.found("a=%d0.127.0.127", "\0\u007f\0\u007f", "0-4");
        CHECK.found("a=%d65.65", "A", "");
        CHECK.ill("a=%d65.66.67.68.69", 15);
        CHECK.ill("a=%x1.2.3.4.5", 11);
        CHECK.ill("a=%d1.", 6);
        CHECK.ill("a=%d1.2.3.", 10);
        CHECK.ill("a=%d1..2", 6);
        CHECK.ill("a=%d1.2-3", 7);
        CHECK.ill("a=%d1.%d2", 6);
    }

    private static void wrongNumbersAnywhere() {
        String[] values = {"%d128", "%d128-127", "%d127-128", "%d128-129", "%d128.1", "%d1.128", "%d1.2.128", "%d1.2.3.128",
            "%x80", "%x7F-80", "%x80-80", "%x7F.80", "%x1.2.3.ff"};
        for (String value : values) {
            CHECK.ill("a=" + value, 2);
            CHECK.ill("a=\"x\" / 3[" + value + "]", 10);
            CHECK.ill("a=b\nb=a\n " + value + "\nc=d", 9);
        }
        CHECK.well("a=%d127.127.127.127 %x7F-7f %d127-127", 1, 5, 1);
    }

    /** "d, x and s may be capitals, too". */
    private static void lettersBehindPercent() {
        CHECK.well("a=%d1 %D1 %x1 %X1 %s\"\" %S\"\"", 1, 8, 1);
        for (char code = 33; code <= 126; code++) {
            if ("dDxXsS".indexOf(code) < 0) {
                CHECK.ill("a=%" + code + "1", 3);
                CHECK.ill("a=%" + code + "\"1\"", 3);
            }
        }
        CHECK.ill("a=%d\"1\"", 4);
        CHECK.ill("a=%s1", 4);
        CHECK.ill("a=%", 3);
        CHECK.ill("a=%s", 4);
    }
}
