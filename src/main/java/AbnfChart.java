import java.util.NoSuchElementException;

/**
 * Grammars in the notation of RFC 5234 and the pieces of an input that their rules match.
 *
 * All rows are made with the object and used again by every call, so that calls make nothing.
 */
public final class AbnfChart {
    public static final int NONE = -1;

    private static final int MOST_BYTES = 8;
    private static final int MOST_TEXT = 240;
    private static final int MOST_INPUT = 24;
    private static final int MOST_RULES = 12;
    private static final int MOST_ELEMENTS = 100;
    private static final int MOST_BRACKETS = 6;
    private static final int MOST_NAME = 6;
    private static final int MOST_STRING = 12;
    private static final int MOST_FURTHER_NUMBERS = 3;
    private static final int HIGHEST_CODE = 127;
    private static final int LINE_END = 10;

    private static final int ALTERNATIVES = 0;
    private static final int SEQUENCE = 1;
    private static final int REPETITION = 2;
    private static final int OPTION = 3;
    private static final int NAME = 4;
    private static final int STRING = 5;
    private static final int EXACT_STRING = 6;
    private static final int RANGE = 7;

    private final Characters text;
    private final Characters input;
    private final Grammar grammar;
    private final Reader reader;
    private final Chart chart;

    public AbnfChart() {
        text = new Characters(MOST_TEXT);
        input = new Characters(MOST_INPUT);
        grammar = new Grammar();
        reader = new Reader(text, grammar);
        chart = new Chart(input, grammar);
    }

    public int write(long eight, int n) throws IllegalArgumentException, IllegalStateException {
        if (!isByteCount(n) || !areTextCodes(eight, n)) {
            throw new IllegalArgumentException();
        }
        if (!text.hasRoomFor(n)) {
            throw new IllegalStateException();
        }
        text.appendBytes(eight, n);
        return text.size;
    }

    public int erase() {
        return text.empty();
    }

    public int read() throws IllegalArgumentException, IllegalStateException {
        chart.forget();
        reader.readGrammar();
        return grammar.ruleTotal();
    }

    public int place() {
        return reader.fault;
    }

    public int rule(long name) throws NoSuchElementException {
        int number = grammar.find(name);
        checkRule(number);
        return number;
    }

    public int give(long eight, int n) throws IllegalArgumentException, IllegalStateException {
        if (!isByteCount(n) || !areInputCodes(eight, n)) {
            throw new IllegalArgumentException();
        }
        if (!input.hasRoomFor(n)) {
            throw new IllegalStateException();
        }
        chart.forget();
        input.appendBytes(eight, n);
        return input.size;
    }

    public int drop() {
        chart.forget();
        return input.empty();
    }

    public boolean matches(int rule, int i, int j)
            throws NoSuchElementException, IndexOutOfBoundsException {
        checkRule(rule);
        checkPiece(i, j);
        return (chart.endsOf(rule, i) >> j & 1) == 1;
    }

    public int longest(int rule, int i) throws NoSuchElementException, IndexOutOfBoundsException {
        checkRule(rule);
        checkPiece(i, i);
        int ends = chart.endsOf(rule, i);
        for (int j = input.size; j >= i; j--) {
            if ((ends >> j & 1) == 1) {
                return j;
            }
        }
        return NONE;
    }

    public int pieces(int rule) throws NoSuchElementException {
        checkRule(rule);
        int total = 0;
        for (int i = 0; i <= input.size; i++) {
            total += Integer.bitCount(chart.endsOf(rule, i));
        }
        return total;
    }

    public int count(int what) throws IndexOutOfBoundsException {
        switch (what) {
            case 0:
                return grammar.ruleTotal();
            case 1:
                return grammar.elementTotal();
            case 2:
                return grammar.toldTotal();
            default:
                throw new IndexOutOfBoundsException();
        }
    }

    private void checkRule(int number) {
        if (number < 0 || number >= grammar.ruleTotal()) {
            throw new NoSuchElementException();
        }
    }

    private void checkPiece(int i, int j) {
        if (i < 0 || j < i || j > input.size) {
            throw new IndexOutOfBoundsException();
        }
    }

    private static boolean isByteCount(int n) {
        return n >= 1 && n <= MOST_BYTES;
    }

    private static boolean areTextCodes(long eight, int n) {
        for (int k = 0; k < n; k++) {
            int code = byteOf(eight, k);
            if (code != LINE_END && (code < 32 || code > 126)) {
                return false;
            }
        }
        return true;
    }

    private static boolean areInputCodes(long eight, int n) {
        for (int k = 0; k < n; k++) {
            if (byteOf(eight, k) > HIGHEST_CODE) {
                return false;
            }
        }
        return true;
    }

    private static int byteOf(long eight, int k) {
        return (int) (eight >>> 8 * k & 255);
    }

    private static boolean isLetter(int code) {
        return code >= 'a' && code <= 'z' || code >= 'A' && code <= 'Z';
    }

    private static boolean isDigit(int code) {
        return code >= '0' && code <= '9';
    }

    private static int smallOf(int code) {
        return code >= 'A' && code <= 'Z' ? code - 'A' + 'a' : code;
    }

    /** A row of characters that grows up to a limit. */
    private static final class Characters {
        private final char[] codes;
        private int size;

        Characters(int most) {
            codes = new char[most];
            size = 0;
        }

        boolean hasRoomFor(int n) {
            return n <= codes.length - size;
        }

        void appendBytes(long eight, int n) {
            for (int k = 0; k < n; k++) {
                append(byteOf(eight, k));
            }
        }

        void append(int code) {
            if (size < codes.length) {
                codes[size] = (char) code;
                size++;
            }
        }

        /** NONE outside, so that a reader can look at the end as at a character. */
        int codeAt(int k) {
            return k >= 0 && k < size ? codes[k] : NONE;
        }

        int empty() {
            int had = size;
            size = 0;
            return had;
        }
    }

    /**
     * A part of a grammar. What low and high are depends on the kind: the bounds of a repetition
     * (high NONE: without bound) or range, or where a string's characters begin and end among the
     * grammar's.
     */
    private static final class Element {
        private int kind;
        private int low;
        private int high;
        private Rule asked;
        private Element part;
        private Element next;
        /** For each place of the input the places to which the element matches from there, as bits. */
        private final int[] ends;

        Element() {
            ends = new int[MOST_INPUT + 1];
        }

        void begin(int newKind) {
            kind = newKind;
            low = 0;
            high = 0;
            asked = null;
            part = null;
            next = null;
        }
    }

    /** A name and, when it was told, a chain of alternatives: one of "=" and one of each "=/". */
    private static final class Rule {
        private long name;
        private Element first;
        private Element last;

        void begin(long newName) {
            name = newName;
            first = null;
            last = null;
        }

        boolean isTold() {
            return first != null;
        }

        void tell(Element alternatives) {
            if (last == null) {
                first = alternatives;
            } else {
                last.next = alternatives;
            }
            last = alternatives;
        }
    }

    /** Rules and elements; they count only when the text has been read whole. */
    private static final class Grammar {
        private final Rule[] rules;
        private final Element[] elements;
        /** Copies, because the text may be erased while the grammar stays. */
        private final Characters strings;
        private int ruleCount;
        private int elementCount;
        private boolean whole;

        Grammar() {
            rules = new Rule[MOST_RULES];
            for (int k = 0; k < MOST_RULES; k++) {
                rules[k] = new Rule();
            }
            elements = new Element[MOST_ELEMENTS];
            for (int k = 0; k < MOST_ELEMENTS; k++) {
                elements[k] = new Element();
            }
            // A kept character has taken at least one of the text, so there are never more.
            strings = new Characters(MOST_TEXT);
            ruleCount = 0;
            elementCount = 0;
            whole = false;
        }

        void begin() {
            strings.empty();
            ruleCount = 0;
            elementCount = 0;
            whole = false;
        }

        void end() {
            whole = true;
        }

        int ruleTotal() {
            return whole ? ruleCount : 0;
        }

        int elementTotal() {
            return whole ? elementCount : 0;
        }

        int toldTotal() {
            int told = 0;
            for (int k = 0; k < ruleTotal(); k++) {
                if (rules[k].isTold()) {
                    told++;
                }
            }
            return told;
        }

        /** Also while the grammar is being read, when it is not whole yet. */
        int find(long name) {
            for (int k = 0; k < ruleCount; k++) {
                if (rules[k].name == name) {
                    return k;
                }
            }
            return NONE;
        }

        boolean hasRoomForRule() {
            return ruleCount < MOST_RULES;
        }

        boolean hasRoomForElement() {
            return elementCount < MOST_ELEMENTS;
        }

        Rule addRule(long name) {
            Rule added = rules[ruleCount];
            ruleCount++;
            added.begin(name);
            return added;
        }

        Element addElement(int kind) {
            Element added = elements[elementCount];
            elementCount++;
            added.begin(kind);
            return added;
        }
    }

    /** Reads the text from left to right and stops at the first fault. */
    private static final class Reader {
        private final Characters text;
        private final Grammar grammar;
        private int at;
        private int fault;

        Reader(Characters newText, Grammar newGrammar) {
            text = newText;
            grammar = newGrammar;
            at = 0;
            fault = NONE;
        }

        void readGrammar() {
            grammar.begin();
            fault = NONE;
            at = fullLineFrom(0);
            readRule();
            for (int k = 0; k < MOST_TEXT && at < text.size; k++) {
                readRule();
            }
            grammar.end();
        }

        private void readRule() {
            int start = at;
            Rule told = readName();
            readGap();
            needReadable(peek() == '=', at);
            at++;
            boolean further = peek() == '/';
            if (further) {
                at++;
            }
            needReadable(told.isTold() == further, start);
            readGap();
            told.tell(readAlternatives(0));
            // The gap is read, so a line end here is none that the rule goes on behind.
            needReadable(peek() == NONE || peek() == LINE_END, at);
            at = fullLineFrom(at + 1);
        }

        /** The gap behind the alternatives is read, too. */
        private Element readAlternatives(int brackets) {
            Element all = beginRow(ALTERNATIVES);
            Element last = readSequence(brackets);
            all.part = last;
            for (int k = 0; k < MOST_TEXT && peek() == '/'; k++) {
                at++;
                readGap();
                last.next = readSequence(brackets);
                last = last.next;
            }
            return all;
        }

        /** The gap behind the sequence is read, too: only behind it is seen whether there is more. */
        private Element readSequence(int brackets) {
            Element row = beginRow(SEQUENCE);
            Element last = readRepetition(brackets);
            row.part = last;
            for (int k = 0; k < MOST_TEXT && readGap() && beginsRepetition(peek()); k++) {
                last.next = readRepetition(brackets);
                last = last.next;
            }
            return row;
        }

        /** Where nothing can begin, the text is ill, even if there would be no room either. */
        private Element beginRow(int kind) {
            needReadable(beginsRepetition(peek()), at);
            return addElement(kind, at);
        }

        private Element readRepetition(int brackets) {
            if (!beginsRepeat(peek())) {
                return readElement(brackets);
            }
            Element repetition = addElement(REPETITION, at);
            readRepeat(repetition);
            repetition.part = readElement(brackets);
            return repetition;
        }

        private void readRepeat(Element repetition) {
            int start = at;
            int first = readDigit();
            if (peek() == '*') {
                at++;
                repetition.low = first == NONE ? 0 : first;
                repetition.high = readDigit();
            } else {
                repetition.low = first;
                repetition.high = first;
            }
            needReadable(repetition.high == NONE || repetition.low <= repetition.high, start);
        }

        private int readDigit() {
            if (!isDigit(peek())) {
                return NONE;
            }
            int digit = peek() - '0';
            at++;
            return digit;
        }

        private Element readElement(int brackets) {
            switch (peek()) {
                case '(':
                    return readBracket(brackets, ')');
                case '[':
                    return readOption(brackets);
                case '"':
                    return readString(at, STRING);
                case '%':
                    return smallOf(text.codeAt(at + 1)) == 's' ? readExactString() : readValue();
                default:
                    return readAskedName();
            }
        }

        private Element readOption(int brackets) {
            Element option = addElement(OPTION, at);
            option.part = readBracket(brackets, ']');
            return option;
        }

        private Element readBracket(int brackets, char end) {
            needRoom(brackets < MOST_BRACKETS, at);
            at++;
            readGap();
            Element inside = readAlternatives(brackets + 1);
            needReadable(peek() == end, at);
            at++;
            return inside;
        }

        private Element readAskedName() {
            int start = at;
            Rule asked = readName();
            Element name = addElement(NAME, start);
            name.asked = asked;
            return name;
        }

        private Element readExactString() {
            int start = at;
            at += 2;
            needReadable(peek() == '"', at);
            return readString(start, EXACT_STRING);
        }

        private Element readString(int start, int kind) {
            Element string = addElement(kind, start);
            at++;
            string.low = grammar.strings.size;
            for (int k = 0; k < MOST_STRING && isStringCode(peek()); k++) {
                grammar.strings.append(peek());
                at++;
            }
            string.high = grammar.strings.size;
            needReadable(peek() == '"', at);
            at++;
            return string;
        }

        private Element readValue() {
            int start = at;
            at++;
            int letter = smallOf(peek());
            needReadable(letter == 'd' || letter == 'x', at);
            at++;
            int base = letter == 'd' ? 10 : 16;
            Element value = addElement(RANGE, start);
            int first = readNumber(start, base);
            if (peek() == '-') {
                at++;
                value.low = first;
                value.high = readNumber(start, base);
                needReadable(value.low <= value.high, start);
                return value;
            }
            value.kind = EXACT_STRING;
            value.low = grammar.strings.size;
            grammar.strings.append(first);
            for (int k = 0; k < MOST_FURTHER_NUMBERS && peek() == '.'; k++) {
                at++;
                grammar.strings.append(readNumber(start, base));
            }
            value.high = grammar.strings.size;
            return value;
        }

        private int readNumber(int start, int base) {
            int most = base == 10 ? 3 : 2;
            int number = 0;
            needReadable(digitOf(peek(), base) != NONE, at);
            for (int k = 0; k < most && digitOf(peek(), base) != NONE; k++) {
                number = number * base + digitOf(peek(), base);
                at++;
            }
            needReadable(number <= HIGHEST_CODE, start);
            return number;
        }

        private Rule readName() {
            int start = at;
            long name = 0;
            needReadable(isLetter(peek()), at);
            for (int k = 0; k < MOST_NAME && isNameCode(peek()); k++) {
                name |= (long) smallOf(peek()) << 8 * k;
                at++;
            }
            int number = grammar.find(name);
            if (number != NONE) {
                return grammar.rules[number];
            }
            needRoom(grammar.hasRoomForRule(), start);
            return grammar.addRule(name);
        }

        /** Whether there was at least one character of it. */
        private boolean readGap() {
            int start = at;
            boolean comment = false;
            for (int k = 0; k < MOST_TEXT && at < text.size; k++) {
                int code = peek();
                if (code == LINE_END) {
                    int line = fullLineFrom(at + 1);
                    if (text.codeAt(line) != ' ') {
                        break;
                    }
                    at = line;
                    comment = false;
                } else if (code == ';') {
                    comment = true;
                } else if (code != ' ' && !comment) {
                    break;
                }
                at++;
            }
            return at > start;
        }

        /** Where the first line that is not blank begins, from a line's beginning on, or the end. */
        private int fullLineFrom(int from) {
            int line = from;
            boolean comment = false;
            for (int k = from; k < text.size; k++) {
                int code = text.codeAt(k);
                if (code == LINE_END) {
                    line = k + 1;
                    comment = false;
                } else if (code == ';') {
                    comment = true;
                } else if (code != ' ' && !comment) {
                    return line;
                }
            }
            return text.size;
        }

        private int peek() {
            return text.codeAt(at);
        }

        private Element addElement(int kind, int start) {
            needRoom(grammar.hasRoomForElement(), start);
            return grammar.addElement(kind);
        }

        private void needReadable(boolean readable, int where) {
            if (!readable) {
                fault = where;
                throw new IllegalArgumentException();
            }
        }

        private void needRoom(boolean room, int where) {
            if (!room) {
                fault = where;
                throw new IllegalStateException();
            }
        }

        private static boolean beginsRepetition(int code) {
            return beginsRepeat(code) || isLetter(code) || code == '(' || code == '['
                    || code == '"' || code == '%';
        }

        private static boolean beginsRepeat(int code) {
            return isDigit(code) || code == '*';
        }

        private static boolean isNameCode(int code) {
            return isLetter(code) || isDigit(code) || code == '-';
        }

        private static boolean isStringCode(int code) {
            return code >= 32 && code <= 126 && code != '"';
        }

        private static int digitOf(int code, int base) {
            if (code >= '0' && code <= '9') {
                return code - '0';
            }
            if (base == 16 && code >= 'a' && code <= 'f') {
                return code - 'a' + 10;
            }
            return base == 16 && code >= 'A' && code <= 'F' ? code - 'A' + 10 : NONE;
        }
    }

    /** All pieces of the input that the elements match, found when they are first asked for. */
    private static final class Chart {
        /** Every pass but the last one finds a further end of an element. */
        private static final int MOST_PASSES = MOST_ELEMENTS * (MOST_INPUT + 1) + 1;

        private final Characters input;
        private final Grammar grammar;
        private boolean filled;

        Chart(Characters newInput, Grammar newGrammar) {
            input = newInput;
            grammar = newGrammar;
            filled = false;
        }

        void forget() {
            filled = false;
        }

        int endsOf(int number, int i) {
            if (!filled) {
                fill();
                filled = true;
            }
            return endsOfRule(grammar.rules[number], i);
        }

        /** From the input's end on, because a piece consists of pieces that begin there or behind. */
        private void fill() {
            for (int i = input.size; i >= 0; i--) {
                for (int k = 0; k < grammar.elementCount; k++) {
                    Element element = grammar.elements[k];
                    element.ends[i] = endsOfCharacters(element, i);
                }
                boolean more = true;
                for (int pass = 0; pass < MOST_PASSES && more; pass++) {
                    more = findMore(i);
                }
            }
        }

        /** From the last element on, because parts stand behind what they are parts of. */
        private boolean findMore(int i) {
            boolean more = false;
            for (int k = grammar.elementCount - 1; k >= 0; k--) {
                Element element = grammar.elements[k];
                int ends = endsOfParts(element, i);
                if (ends != element.ends[i]) {
                    element.ends[i] = ends;
                    more = true;
                }
            }
            return more;
        }

        private int endsOfCharacters(Element element, int i) {
            switch (element.kind) {
                case STRING:
                case EXACT_STRING:
                    return isStringAt(element, i) ? 1 << i + element.high - element.low : 0;
                case RANGE:
                    int code = input.codeAt(i);
                    return code != NONE && code >= element.low && code <= element.high ? 1 << i + 1 : 0;
                default:
                    return 0;
            }
        }

        private boolean isStringAt(Element string, int i) {
            for (int k = string.low; k < string.high; k++) {
                int want = grammar.strings.codeAt(k);
                int have = input.codeAt(i + k - string.low);
                if (string.kind == STRING) {
                    want = smallOf(want);
                    have = smallOf(have);
                }
                if (want != have) {
                    return false;
                }
            }
            return true;
        }

        private int endsOfParts(Element element, int i) {
            switch (element.kind) {
                case ALTERNATIVES:
                    return endsOfAny(element.part, i);
                case SEQUENCE:
                    return endsOfRow(element.part, i);
                case REPETITION:
                    return endsOfRepetition(element, i);
                case OPTION:
                    return 1 << i | goOn(1 << i, element.part, i);
                case NAME:
                    return endsOfRule(element.asked, i);
                default:
                    return element.ends[i];
            }
        }

        private int endsOfRule(Rule rule, int i) {
            return rule == null ? 0 : endsOfAny(rule.first, i);
        }

        private int endsOfAny(Element first, int i) {
            int ends = 0;
            for (Element choice = first; choice != null; choice = choice.next) {
                ends |= choice.ends[i];
            }
            return ends;
        }

        private int endsOfRow(Element first, int i) {
            int ends = 1 << i;
            for (Element part = first; part != null; part = part.next) {
                ends = goOn(ends, part, i);
            }
            return ends;
        }

        private int endsOfRepetition(Element repetition, int i) {
            int ends = 1 << i;
            for (int k = 0; k < repetition.low; k++) {
                ends = goOn(ends, repetition.part, i);
            }
            // Without bound the input's length is enough: a further piece that counts is not empty.
            int further = repetition.high == NONE ? input.size : repetition.high - repetition.low;
            boolean more = true;
            for (int k = 0; k < further && more; k++) {
                int before = ends;
                ends |= goOn(ends, repetition.part, i);
                more = ends != before;
            }
            return ends;
        }

        /** Where one piece of the part ends that begins at one of these places, none before i. */
        private int goOn(int places, Element part, int i) {
            if (part == null) {
                return 0;
            }
            int ends = 0;
            for (int k = i; k <= input.size && places >> k != 0; k++) {
                if ((places >> k & 1) == 1) {
                    ends |= part.ends[k];
                }
            }
            return ends;
        }
    }
}
