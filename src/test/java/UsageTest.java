/** What README.md shows of the class: its examples, call by call. */
public final class UsageTest {
    private static final Check CHECK = new Check();

    public static void main(String[] args) {
        example();
        exampleOfAFault();
        exampleOfTheNotation();
        CHECK.end();
    }

    private static void example() {
        AbnfChart x = new AbnfChart();
        CHECK.due("write", 6, () -> x.write(0x2278222A3D61L, 6));
        CHECK.due("read", 1, x::read);
        CHECK.due("rule", 0, () -> x.rule(0x61L));
        CHECK.due("count", 4, () -> x.count(1));
        CHECK.due("give", 3, () -> x.give(0x787978L, 3));
        CHECK.due("matches", 1, () -> x.matches(0, 0, 1) ? 1 : 0);
        CHECK.due("longest", 1, () -> x.longest(0, 1));
        CHECK.due("pieces", 6, () -> x.pieces(0));
        CHECK.due("drop", 3, x::drop);
        CHECK.due("erase", 6, x::erase);
    }

    private static void exampleOfAFault() {
        AbnfChart x = new AbnfChart();
        CHECK.due("write", 4, () -> x.write(0x2962_3D61L, 4));
        CHECK.due("read", Check.ILLEGAL_ARGUMENT, x::read);
        CHECK.due("place", 3, x::place);
        CHECK.due("count", 0, () -> x.count(0));
    }

    private static void exampleOfTheNotation() {
        String text = "list = item *(\",\" item)\nitem = 1*3digit / \"none\"\n / [sign] digit\n"
            + "item =/ %s\"Null\"\ndigit = %x30-39\nsign = %d43 / %d45.32\n";
        AbnfChart x = Check.made(text, "12,NONE,Null,- 7,+8,null");
        CHECK.due("rules", 4, () -> x.count(0));
        CHECK.due("told rules", 4, () -> x.count(2));
        CHECK.due("a list", 1, () -> x.matches(0, 0, 19) ? 1 : 0);
        CHECK.due("its longest", 19, () -> x.longest(0, 0));
        CHECK.due("none with capitals", 7, () -> x.longest(1, 3));
        CHECK.due("Null without its capital", AbnfChart.NONE, () -> x.longest(1, 20));
    }
}
