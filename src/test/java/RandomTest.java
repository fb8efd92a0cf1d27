import java.util.ArrayList;
import java.util.List;

/**
 * Made grammars, written with all kinds of gaps, against a matcher that knows them as trees and
 * tries every way to divide a piece; and the same texts spoilt, the short ones against a reader that
 * tries all ways.
 */
public final class RandomTest {
    private static final Check CHECK = new Check();
    private static final int GRAMMARS = 3000;
    private static final String[] GAPS = {" ", "  ", "\n ", ";=/\"\n ", " ; (\n\n  ;)\n  ", "\n \n;\n "};
    private static final String[] NAMES = {"a", "bc", "d-1", "Ef2", "longer", "z"};
    private static final String SPOIL = "ab\"%dxs09*-./=[]() ;\n!";

    /** A fixed row of numbers, so that every run asks the same. */
    private static long seed = 20261115;

    private enum Kind { ALTERNATIVES, SEQUENCE, REPETITION, OPTION, NAME, STRING, RANGE }

    private static final class Node {
        final Kind kind;
        final List<Node> parts = new ArrayList<>();
        int low;
        int high;
        boolean exact;
        String codes = "";
        boolean[][] match;

        Node(Kind kind) {
            this.kind = kind;
        }
    }

    /** A grammar as it is written, with what is due of it. */
    private static final class Made {
        final StringBuilder text = new StringBuilder();
        final List<Node> nodes = new ArrayList<>();
        final List<List<Node>> rules = new ArrayList<>();
        final List<Integer> order = new ArrayList<>();
        int told = 0;
    }

    public static void main(String[] args) {
        int tried = 0;
        for (int k = 0; k < GRAMMARS; k++) {
            Made made = makeGrammar();
            if (made.text.length() <= 240 && made.nodes.size() <= 100) {
                tried++;
                tryGrammar(made);
                trySpoilt(made.text.toString());
            }
        }
        int enough = tried;
        CHECK.due("grammars that are small enough (" + tried + ") are many", 1, () -> enough > GRAMMARS / 4 ? 1 : 0);
        CHECK.end();
    }

    private static int below(int n) {
        seed = seed * 6364136223846793005L + 1442695040888963407L;
        return (int) ((seed >>> 33) % n);
    }

    private static Made makeGrammar() {
        Made made = new Made();
        int rules = 1 + below(4);
        for (int k = 0; k < NAMES.length; k++) {
            made.rules.add(new ArrayList<>());
        }
        made.text.append(below(4) == 0 ? "  ;blank\n\n" : "");
        for (int k = 0; k < rules + below(2); k++) {
            int rule = k < rules ? k : below(rules);
            writeName(made, rule);
            gap(made, 4);
            made.text.append(made.rules.get(rule).isEmpty() ? "=" : "=/");
            made.told += made.rules.get(rule).isEmpty() ? 1 : 0;
            gap(made, 4);
            made.rules.get(rule).add(alternatives(made, 0));
            gap(made, 6);
            made.text.append(below(3) == 0 ? ";end\n  \n" : "\n");
        }
        if (below(2) == 0) {
            made.text.setLength(made.text.length() - 1);
        }
        return made;
    }

    private static void gap(Made made, int seldom) {
        if (below(seldom) == 0) {
            made.text.append(GAPS[below(GAPS.length)]);
        }
    }

    private static void writeName(Made made, int rule) {
        String name = NAMES[rule];
        made.text.append(below(3) == 0 ? name.toUpperCase() : name);
        if (!made.order.contains(rule)) {
            made.order.add(rule);
        }
    }

    private static Node node(Made made, Kind kind) {
        Node node = new Node(kind);
        made.nodes.add(node);
        return node;
    }

    private static Node alternatives(Made made, int depth) {
        Node all = node(made, Kind.ALTERNATIVES);
        int parts = 1 + below(3);
        for (int k = 0; k < parts; k++) {
            if (k > 0) {
                gap(made, 3);
                made.text.append('/');
                gap(made, 3);
            }
            all.parts.add(sequence(made, depth));
        }
        return all;
    }

    private static Node sequence(Made made, int depth) {
        Node row = node(made, Kind.SEQUENCE);
        int parts = 1 + below(3);
        for (int k = 0; k < parts; k++) {
            if (k > 0) {
                made.text.append(below(4) > 0 ? " " : GAPS[below(GAPS.length)]);
            }
            row.parts.add(repetition(made, depth));
        }
        return row;
    }

    private static Node repetition(Made made, int depth) {
        int way = below(9);
        if (way > 3) {
            return element(made, depth);
        }
        Node times = node(made, Kind.REPETITION);
        times.low = way == 1 ? 0 : below(3);
        times.high = way == 0 ? times.low : way == 3 ? -1 : times.low + below(3);
        made.text.append(way == 1 ? "" : Integer.toString(times.low));
        made.text.append(way == 0 ? "" : "*").append(way == 0 || way == 3 ? "" : Integer.toString(times.high));
        times.parts.add(element(made, depth));
        return times;
    }

    private static Node element(Made made, int depth) {
        int way = below(depth < 2 ? 8 : 6);
        if (way < 2) {
            Node name = node(made, Kind.NAME);
            name.low = below(NAMES.length - 1);
            writeName(made, name.low);
            return name;
        }
        if (way < 4) {
            return string(made);
        }
        return way < 6 ? value(made) : bracket(made, depth, way == 6);
    }

    private static Node bracket(Made made, int depth, boolean option) {
        Node whole = option ? node(made, Kind.OPTION) : null;
        made.text.append(option ? '[' : '(');
        gap(made, 5);
        Node inside = alternatives(made, depth + 1);
        gap(made, 5);
        made.text.append(option ? ']' : ')');
        if (whole == null) {
            return inside;
        }
        whole.parts.add(inside);
        return whole;
    }

    private static Node string(Made made) {
        Node string = node(made, Kind.STRING);
        string.exact = below(3) == 0;
        int length = below(3);
        for (int k = 0; k < length; k++) {
            string.codes += "aAb1".charAt(below(4));
        }
        made.text.append(string.exact ? below(2) == 0 ? "%s" : "%S" : "");
        made.text.append('"').append(string.codes).append('"');
        return string;
    }

    private static Node value(Made made) {
        boolean hex = below(2) == 0;
        made.text.append(hex ? below(2) == 0 ? "%x" : "%X" : below(2) == 0 ? "%d" : "%D");
        int way = below(3);
        Node value = node(made, way == 0 ? Kind.RANGE : Kind.STRING);
        if (way == 0) {
            value.low = 48 + below(50);
            value.high = value.low + below(20);
            writeNumber(made, value.low, hex);
            made.text.append('-');
            writeNumber(made, value.high, hex);
            return value;
        }
        value.exact = true;
        int length = 1 + below(2);
        for (int k = 0; k < length; k++) {
            char code = "aAb1".charAt(below(4));
            value.codes += code;
            made.text.append(k == 0 ? "" : ".");
            writeNumber(made, code, hex);
        }
        return value;
    }

    private static void writeNumber(Made made, int number, boolean hex) {
        String digits = hex ? Integer.toHexString(number) : Integer.toString(number);
        made.text.append(below(2) == 0 ? digits.toUpperCase() : digits);
    }

    private static void tryGrammar(Made made) {
        String text = made.text.toString();
        String shown = text.replace("\n", "\\n");
        for (int round = 0; round < 2; round++) {
            AbnfChart x = Check.written(text);
            CHECK.due("read of " + shown, made.order.size(), x::read);
            CHECK.due("place in " + shown, AbnfChart.NONE, x::place);
            CHECK.due("elements of " + shown, made.nodes.size(), () -> x.count(1));
            CHECK.due("told rules of " + shown, made.told, () -> x.count(2));
            StringBuilder input = new StringBuilder();
            int length = below(8);
            for (int k = 0; k < length; k++) {
                input.append("aabAB1".charAt(below(6)));
            }
            Check.give(x, input.toString());
            findAll(made, input.toString());
            for (int number = 0; number < made.order.size(); number++) {
                tryRule(x, made, number, input.toString(), shown);
            }
        }
    }

    private static void tryRule(AbnfChart x, Made made, int number, String input, String shown) {
        int rule = made.order.get(number);
        String where = NAMES[rule] + " of " + shown + " on " + input + ": ";
        CHECK.due(where + "rule", number, () -> x.rule(Check.pack(NAMES[rule].toLowerCase())));
        int total = 0;
        for (int i = 0; i <= input.length(); i++) {
            int last = AbnfChart.NONE;
            for (int j = i; j <= input.length(); j++) {
                boolean due = any(made.rules.get(rule), i, j);
                int from = i;
                int to = j;
                CHECK.due(where + i + "-" + j, due ? 1 : 0, () -> x.matches(number, from, to) ? 1 : 0);
                total += due ? 1 : 0;
                last = due ? j : last;
            }
            int from = i;
            CHECK.due(where + "longest " + i, last, () -> x.longest(number, from));
        }
        CHECK.due(where + "pieces", total, () -> x.pieces(number));
    }

    private static void findAll(Made made, String input) {
        int n = input.length();
        for (Node node : made.nodes) {
            node.match = new boolean[n + 1][n + 1];
        }
        boolean more = true;
        while (more) {
            more = false;
            for (Node node : made.nodes) {
                for (int i = 0; i <= n; i++) {
                    for (int j = i; j <= n; j++) {
                        if (!node.match[i][j] && holds(made, node, input, i, j)) {
                            node.match[i][j] = true;
                            more = true;
                        }
                    }
                }
            }
        }
    }

    private static boolean holds(Made made, Node node, String input, int i, int j) {
        switch (node.kind) {
            case ALTERNATIVES:
                return any(node.parts, i, j);
            case SEQUENCE:
                return row(node.parts, 0, i, j);
            case REPETITION:
                return times(node, i, j);
            case OPTION:
                return i == j || any(node.parts, i, j);
            case NAME:
                return any(made.rules.get(node.low), i, j);
            case STRING:
                String piece = input.substring(i, j);
                return node.exact ? piece.equals(node.codes) : piece.equalsIgnoreCase(node.codes);
            default:
                return j == i + 1 && input.charAt(i) >= node.low && input.charAt(i) <= node.high;
        }
    }

    private static boolean any(List<Node> choices, int i, int j) {
        for (Node choice : choices) {
            if (choice.match[i][j]) {
                return true;
            }
        }
        return false;
    }

    private static boolean row(List<Node> parts, int k, int i, int j) {
        if (k == parts.size()) {
            return i == j;
        }
        for (int middle = i; middle <= j; middle++) {
            if (parts.get(k).match[i][middle] && row(parts, k + 1, middle, j)) {
                return true;
            }
        }
        return false;
    }

    private static boolean times(Node node, int i, int j) {
        int most = node.high < 0 ? node.low + j - i : node.high;
        List<Node> pieces = new ArrayList<>();
        for (int k = 0; k <= most; k++) {
            if (k >= node.low && row(pieces, 0, i, j)) {
                return true;
            }
            pieces.add(node.parts.get(0));
        }
        return false;
    }

    private static void trySpoilt(String text) {
        for (int round = 0; round < 4; round++) {
            StringBuilder spoilt = new StringBuilder(text);
            int where = below(text.length());
            if (round == 0) {
                spoilt.setLength(where);
            } else if (round == 1) {
                spoilt.deleteCharAt(where);
            } else {
                spoilt.setCharAt(where, SPOIL.charAt(below(SPOIL.length())));
            }
            tryAnyText(spoilt.toString());
        }
    }

    private static void tryAnyText(String text) {
        String shown = text.replace("\n", "\\n");
        AbnfChart x = Check.written(text);
        long answer = Check.answer(x::read);
        if (answer != Check.ILLEGAL_STATE && text.length() <= PlainReader.MOST_TEXT) {
            CHECK.due("place in " + shown + " as a plain reader's", PlainReader.placeIn(text), x::place);
        }
        if (answer >= 0) {
            CHECK.due("rules of " + shown, answer, () -> x.count(0));
            CHECK.due("place in " + shown, AbnfChart.NONE, x::place);
            CHECK.due("first rule of " + shown, 1, () -> x.pieces(0) >= 0 ? 1 : 0);
            return;
        }
        boolean may = answer == Check.ILLEGAL_ARGUMENT || answer == Check.ILLEGAL_STATE;
        CHECK.due("read of " + shown + " throws what it may", 1, () -> may ? 1 : 0);
        CHECK.due("rules of " + shown, 0, () -> x.count(0));
        CHECK.due("place is within " + shown, 1, () -> x.place() >= 0 && x.place() <= text.length() ? 1 : 0);
    }
}
