/**
 * Promises 4 and 5 on every short text of some characters: read and place are as a reader says that
 * tries all ways the terms allow.
 */
public final class ShortTextsTest {
    private static final Check CHECK = new Check();
    /** Each text takes at most six calls, and an object has 512. */
    private static final int TEXTS_OF_AN_OBJECT = 80;

    private static AbnfChart chart = new AbnfChart();
    private static int texts = 0;

    public static void main(String[] args) {
        allBehind("", "a=/ \n;\"", 6);
        allBehind("a=b", "a=/ \n;", 6);
        allBehind("a=b\na=/", "ab=/ \n;", 5);
        allBehind("a=", "b()[]/ \n", 6);
        allBehind("a=", "b23*( \"", 6);
        allBehind("a=%", "dXs\"19-.a", 5);
        allBehind("a=%d1", "0279-. ", 6);
        allBehind("a=%x7", "07Ff-. ", 6);
        allBehind("a=(", "b) ;\n\"/", 6);
        allBehind("abcd", "e-1 =Z", 6);
        CHECK.end();
    }

    private static void allBehind(String begun, String codes, int further) {
        compare(begun);
        if (further > 0) {
            for (int k = 0; k < codes.length(); k++) {
                allBehind(begun + codes.charAt(k), codes, further - 1);
            }
        }
    }

    private static void compare(String text) {
        if (texts % TEXTS_OF_AN_OBJECT == 0) {
            chart = new AbnfChart();
        }
        texts++;
        chart.erase();
        Check.write(chart, text);
        int place = PlainReader.placeIn(text);
        long got = Check.answer(chart::read);
        boolean due = place == PlainReader.WELL ? got > 0 : got == Check.ILLEGAL_ARGUMENT;
        CHECK.due("read as due of " + Check.shown(text) + " with place " + place, 1, () -> due ? 1 : 0);
        CHECK.due("place in " + Check.shown(text), place, chart::place);
    }
}
