/**
 * What each refused call throws, just outside each bound of the promises, and that it changes
 * nothing: behind it the object answers every call as a twin does that was never asked it.
 */
public final class RefusedTest {
    private static final Check CHECK = new Check();
    private static final String[] NAMES = {"a", "b", "c"};
    private static final String GRAMMAR = "a=b \"x\" / [c]\nb=*\"x\"";
    private static final String ALL_32 = "        ";

    private interface Call {
        long on(AbnfChart x);
    }

    private enum State {
        NEW, WRITTEN, READ, GIVEN, READ_AND_GIVEN, ERASED, ILL, TOO_MUCH, FULL_TEXT, FULL_INPUT, FULL_BOTH
    }

    public static void main(String[] args) {
        for (State state : State.values()) {
            writeRefuses(state);
            giveRefuses(state);
            countRefuses(state);
            ruleRefuses(state);
            askingRefusesRules(state);
            askingRefusesPlaces(state);
        }
        writeRefusesMoreThan240();
        giveRefusesMoreThan24();
        readRefuses();
        CHECK.end();
    }

    private static AbnfChart make(State state) {
        switch (state) {
            case NEW:
                return new AbnfChart();
            case WRITTEN:
                return Check.written(GRAMMAR);
            case READ:
                return Check.made(GRAMMAR, "");
            case GIVEN:
                return given(Check.written(GRAMMAR), "xxy");
            case READ_AND_GIVEN:
                return Check.made(GRAMMAR, "xxy");
            case ERASED:
                return erased(Check.made(GRAMMAR, "xxy"));
            case ILL:
                return failed(GRAMMAR + "!", "xxy");
            case TOO_MUCH:
                return failed("a=(((((((b)))))))", "xxy");
            case FULL_TEXT:
                return Check.made(GRAMMAR + " ".repeat(240 - GRAMMAR.length()), "xxy");
            case FULL_INPUT:
                return Check.made(GRAMMAR, "xy".repeat(12));
            default:
                return Check.made(GRAMMAR + ";".repeat(240 - GRAMMAR.length()), "xy".repeat(12));
        }
    }

    private static int inputOf(State state) {
        switch (state) {
            case NEW:
            case WRITTEN:
            case READ:
                return 0;
            case FULL_INPUT:
            case FULL_BOTH:
                return 24;
            default:
                return 3;
        }
    }

    private static boolean hasGrammar(State state) {
        return make(state).count(0) > 0;
    }

    private static AbnfChart given(AbnfChart x, String input) {
        Check.give(x, input);
        return x;
    }

    private static AbnfChart erased(AbnfChart x) {
        x.erase();
        return x;
    }

    private static AbnfChart failed(String text, String input) {
        AbnfChart x = given(Check.made(GRAMMAR, ""), input);
        x.erase();
        Check.write(x, text);
        Check.answer(x::read);
        return x;
    }

    private static void refused(State state, String call, long exception, Call refused) {
        AbnfChart x = make(state);
        String where = state + ": " + call;
        CHECK.due(where, exception, () -> refused.on(x));
        CHECK.same(where + ", what comes behind it", traceOf(make(state)), traceOf(x));
    }

    /** All that can be asked, then the same of the grammar that the text gives, then the lengths. */
    private static String traceOf(AbnfChart x) {
        StringBuilder all = new StringBuilder();
        addAnswers(all, x);
        add(all, "read", Check.answer(x::read));
        addAnswers(all, x);
        add(all, "erase", Check.answer(x::erase));
        add(all, "drop", Check.answer(x::drop));
        add(all, "place", Check.answer(x::place));
        return all.toString();
    }

    private static void addAnswers(StringBuilder all, AbnfChart x) {
        add(all, "place", Check.answer(x::place));
        for (int what = 0; what <= 2; what++) {
            int asked = what;
            add(all, "count", Check.answer(() -> x.count(asked)));
        }
        for (String name : NAMES) {
            add(all, "rule", Check.answer(() -> x.rule(Check.pack(name))));
        }
        for (int rule = 0; rule < NAMES.length; rule++) {
            int number = rule;
            add(all, "pieces", Check.answer(() -> x.pieces(number)));
            for (int i = 0; i <= 24; i += 3) {
                int at = i;
                add(all, "longest", Check.answer(() -> x.longest(number, at)));
                add(all, "matches", Check.answer(() -> x.matches(number, at, at) ? 1 : 0));
                add(all, "matches", Check.answer(() -> x.matches(number, at, at + 1) ? 1 : 0));
            }
        }
    }

    private static void add(StringBuilder all, String call, long answer) {
        all.append(call).append(' ').append(answer).append("; ");
    }

    /** "IllegalArgumentException, when n is not 1 .. 8 or one of them is no character". */
    private static void writeRefuses(State state) {
        int[] counts = {0, 9, -1, 10, 64, Integer.MIN_VALUE, Integer.MAX_VALUE};
        for (int n : counts) {
            refused(state, "write n " + n, Check.ILLEGAL_ARGUMENT, x -> x.write(Check.pack(ALL_32), n));
        }
        int[] codes = {0, 9, 11, 13, 31, 127, 128, 138, 160, 255};
        for (int code : codes) {
            refused(state, "write code " + code, Check.ILLEGAL_ARGUMENT, x -> x.write(code, 1));
            refused(state, "write code behind seven " + code, Check.ILLEGAL_ARGUMENT,
                x -> x.write(Check.pack(";======") | (long) code << 56, 8));
            refused(state, "write code before one " + code, Check.ILLEGAL_ARGUMENT, x -> x.write(';' << 8 | code, 2));
        }
    }

    /** "IllegalArgumentException, when n is not 1 .. 8 or one of them is above 127". */
    private static void giveRefuses(State state) {
        int[] counts = {0, 9, -1, 10, 24, Integer.MIN_VALUE, Integer.MAX_VALUE};
        for (int n : counts) {
            refused(state, "give n " + n, Check.ILLEGAL_ARGUMENT, x -> x.give(0, n));
        }
        int[] codes = {128, 129, 192, 255};
        for (int code : codes) {
            refused(state, "give code " + code, Check.ILLEGAL_ARGUMENT, x -> x.give(code, 1));
            refused(state, "give code behind seven " + code, Check.ILLEGAL_ARGUMENT,
                x -> x.give(Check.pack("xxxxxxx") | (long) code << 56, 8));
            refused(state, "give code before one " + code, Check.ILLEGAL_ARGUMENT, x -> x.give('x' << 8 | code, 2));
        }
    }

    /** "IndexOutOfBoundsException, for another what". */
    private static void countRefuses(State state) {
        int[] others = {-1, 3, 4, Integer.MIN_VALUE, Integer.MAX_VALUE};
        for (int what : others) {
            refused(state, "count " + what, Check.INDEX_OUT_OF_BOUNDS, x -> x.count(what));
        }
    }

    /** "NoSuchElementException, when there is none", with small letters and "0 behind the last one". */
    private static void ruleRefuses(State state) {
        long[] names = {0, 'd', 'A', 'a' | 'a' << 8, 'a' << 8, 'a' | ' ' << 8, 'a' | (long) 'b' << 16, 'a' | 1L << 56,
            'a' | 1L << 63, -1, Long.MIN_VALUE, Long.MAX_VALUE};
        for (long name : names) {
            refused(state, "rule " + name, Check.NO_SUCH_ELEMENT, x -> x.rule(name));
        }
    }

    /** "NoSuchElementException, when there is no such rule", also where the places are wrong, too. */
    private static void askingRefusesRules(State state) {
        int behind = hasGrammar(state) ? 3 : 0;
        int[] rules = {-1, behind, behind + 1, 12, Integer.MIN_VALUE, Integer.MAX_VALUE};
        for (int rule : rules) {
            refused(state, "matches rule " + rule, Check.NO_SUCH_ELEMENT, x -> x.matches(rule, 0, 0) ? 1 : 0);
            refused(state, "matches nowhere rule " + rule, Check.NO_SUCH_ELEMENT, x -> x.matches(rule, 2, 1) ? 1 : 0);
            refused(state, "longest rule " + rule, Check.NO_SUCH_ELEMENT, x -> x.longest(rule, 0));
            refused(state, "longest nowhere rule " + rule, Check.NO_SUCH_ELEMENT, x -> x.longest(rule, -1));
            refused(state, "pieces rule " + rule, Check.NO_SUCH_ELEMENT, x -> x.pieces(rule));
        }
    }

    /** "IndexOutOfBoundsException, when not 0 .. i .. j .. the input's length". */
    private static void askingRefusesPlaces(State state) {
        if (!hasGrammar(state)) {
            return;
        }
        int n = inputOf(state);
        int[][] places = {{-1, 0}, {-1, -1}, {-1, n}, {1, 0}, {n + 1, n}, {n, n - 1}, {0, n + 1}, {n, n + 1}, {n + 1, n + 1},
            {0, -1}, {0, 32}, {32, 32}, {Integer.MIN_VALUE, 0}, {0, Integer.MAX_VALUE}, {0, Integer.MIN_VALUE},
            {Integer.MAX_VALUE, Integer.MAX_VALUE}, {Integer.MIN_VALUE, Integer.MAX_VALUE}};
        for (int rule = 0; rule < 3; rule++) {
            int number = rule;
            for (int[] place : places) {
                refused(state, "matches " + rule + " from " + place[0] + " to " + place[1], Check.INDEX_OUT_OF_BOUNDS,
                    x -> x.matches(number, place[0], place[1]) ? 1 : 0);
            }
            int[] starts = {-1, n + 1, n + 2, 32, Integer.MIN_VALUE, Integer.MAX_VALUE};
            for (int i : starts) {
                refused(state, "longest " + rule + " from " + i, Check.INDEX_OUT_OF_BOUNDS, x -> x.longest(number, i));
            }
            AbnfChart x = make(state);
            CHECK.due(state + ": matches from end to end", rule == 2 ? 0 : 1, () -> x.matches(number, n, n) ? 1 : 0);
            CHECK.due(state + ": longest at the end", rule == 2 ? AbnfChart.NONE : n, () -> x.longest(number, n));
            CHECK.due(state + ": matches from 0 to 0", rule == 2 ? 0 : 1, () -> x.matches(number, 0, 0) ? 1 : 0);
            CHECK.due(state + ": matches from 0 to the end is not refused", 1,
                () -> Check.answer(() -> x.matches(number, 0, n) ? 1 : 0) >= 0 ? 1 : 0);
        }
    }

    /** "IllegalStateException, when there would be more than 240": for every n, just inside and outside. */
    private static void writeRefusesMoreThan240() {
        for (int n = 1; n <= 8; n++) {
            int count = n;
            for (int room = 0; room <= 8; room++) {
                AbnfChart x = Check.written(GRAMMAR + " ".repeat(240 - room - GRAMMAR.length()));
                boolean fits = n <= room;
                int had = 240 - room;
                CHECK.due("write " + n + " with room for " + room, fits ? had + n : Check.ILLEGAL_STATE,
                    () -> x.write(Check.pack(";;;;;;;;"), count));
                CHECK.due("read behind it", 3, x::read);
                CHECK.due("erase behind it", fits ? had + n : had, x::erase);
                CHECK.due("write behind erase", 8, () -> x.write(Check.pack(ALL_32), 8));
            }
            refused(State.FULL_TEXT, "write " + n, Check.ILLEGAL_STATE, x -> x.write(Check.pack("!!!!!!!!"), count));
            refused(State.FULL_BOTH, "write " + n, Check.ILLEGAL_STATE, x -> x.write(Check.pack("\n\n\n\n\n\n\n\n"), count));
        }
    }

    /** "IllegalStateException, when there would be more than 24": for every n, just inside and outside. */
    private static void giveRefusesMoreThan24() {
        for (int n = 1; n <= 8; n++) {
            int count = n;
            for (int room = 0; room <= 8; room++) {
                int had = 24 - room;
                AbnfChart x = Check.made("a=*\"x\"", "x".repeat(had));
                boolean fits = n <= room;
                int has = fits ? had + n : had;
                CHECK.due("give " + n + " with room for " + room, fits ? has : Check.ILLEGAL_STATE,
                    () -> x.give(Check.pack("xxxxxxxx"), count));
                CHECK.due("longest behind it", has, () -> x.longest(0, 0));
                CHECK.due("pieces behind it", (has + 1) * (has + 2) / 2, () -> x.pieces(0));
                CHECK.due("drop behind it", has, x::drop);
                CHECK.due("give behind drop", 8, () -> x.give(0, 8));
            }
            refused(State.FULL_INPUT, "give " + n, Check.ILLEGAL_STATE, x -> x.give(0, count));
            refused(State.FULL_BOTH, "give " + n, Check.ILLEGAL_STATE, x -> x.give(Check.pack("xxxxxxxx"), count));
        }
    }

    /** "(When it throws there is no grammar.)": text and input stay, and what is mended can be read. */
    private static void readRefuses() {
        AbnfChart x = Check.made(GRAMMAR, "xxy");
        CHECK.due("write behind the text", 22, () -> x.write('\n' | '!' << 8, 2));
        CHECK.due("the grammar stays until read", 3, () -> x.count(0));
        CHECK.due("read", Check.ILLEGAL_ARGUMENT, x::read);
        CHECK.due("place", 21, x::place);
        CHECK.due("no grammar", 0, () -> x.count(0));
        CHECK.due("write is not refused", 30, () -> x.write(Check.pack("        "), 8));
        CHECK.due("place stays behind write", 21, x::place);
        CHECK.due("give is not refused", 4, () -> x.give('x', 1));
        CHECK.due("erase", 30, x::erase);
        CHECK.due("read of nothing", Check.ILLEGAL_ARGUMENT, x::read);
        CHECK.due("place in nothing", 0, x::place);
        Check.write(x, "b=*\"x\"");
        CHECK.due("read of another text", 1, x::read);
        CHECK.due("place", AbnfChart.NONE, x::place);
        CHECK.due("rule(a) is gone", Check.NO_SUCH_ELEMENT, () -> x.rule('a'));
        CHECK.due("rule(b) has another number", 0, () -> x.rule('b'));
        CHECK.due("the input is still there", 9, () -> x.pieces(0));
        CHECK.due("drop", 4, x::drop);
    }
}
