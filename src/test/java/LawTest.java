/** Promise 9 and what the laws' values are in 8, 10, 11 and 20. */
public final class LawTest {
    private static final Check CHECK = new Check();
    private static final long ERROR = Long.MIN_VALUE;

    public static void main(String[] args) {
        values();
        errors();
        namesOfDue();
        namesOfSnap();
        namesOfHarm();
        bounds();
        missing();
        CHECK.end();
    }

    private static void due(String formula, long want) {
        WindowLoans x = Check.told("house a;law due " + formula + ";");
        CHECK.due(formula, x.law(0, 0, 0), want);
    }

    private static void values() {
        due("1 + 2 * 3", 7);
        due("(1 + 2) * 3", 9);
        due("10 - 3 - 2", 5);
        due("10 - (3 - 2)", 9);
        due("100 / 7 / 2", 7);
        due("100 / (7 / 2)", 33);
        due("0 - 7 / 2", -3);
        due("(0 - 7) / 2", -3);
        due("7 / (0 - 2)", -3);
        due("2 * 7 / 3", 4);
        due("1 < 2", 1);
        due("2 < 2", 0);
        due("2 <= 2", 1);
        due("3 <= 2", 0);
        due("2 = 2", 1);
        due("2 = 3", 0);
        due("2 <> 2", 0);
        due("2 <> 3", 1);
        due("2 >= 2", 1);
        due("2 >= 3", 0);
        due("3 > 2", 1);
        due("2 > 2", 0);
        due("1 + 1 = 2", 1);
        due("7 and 8", 1);
        due("7 and 0", 0);
        due("(0 - 1) and 1", 1);
        due("0 or 8", 1);
        due("0 or 0", 0);
        due("not 0", 1);
        due("not 5", 0);
        due("not not 5", 1);
        due("not 1 = 2", 1);
        due("(not 1) = 2", 0);
        due("not 0 and 0", 0);
        due("not (0 and 0)", 1);
        due("1 or 0 and 0", 1);
        due("(1 or 0) and 0", 0);
        due("not 0 + 1", 0);
        due("1 < 2 and 2 < 3", 1);
        due("5 - 3 > 1 or 1 / 1 > 7", 1);
        due("not ".repeat(63) + "0", 1);
        due("not ".repeat(62) + "0", 0);
        due("(not ".repeat(8) + "not ".repeat(54) + "7" + ")".repeat(8), 1);
        due("1 + (".repeat(8) + "1 + 1 * 2 - 3" + ")".repeat(8), 8);
    }

    private static void errors() {
        due("1 / 0", ERROR);
        due("1 / (2 - 2)", ERROR);
        due("0 and 1 / 0", ERROR);
        due("1 or 1 / 0", ERROR);
        due("0 * (1 / 0)", ERROR);
        due("not (1 / 0)", ERROR);
        due("8000 * 5000 * 5000 * 5", 1000000000000L);
        due("8000 * 5000 * 5000 * 5 + 1", ERROR);
        due("8000 * 5000 * 5000 * 5 + 1 - 1", ERROR);
        due("0 - 8000 * 5000 * 5000 * 5", -1000000000000L);
        due("0 - 8000 * 5000 * 5000 * 5 - 1", ERROR);
        due("9999 * 9999 * 9999 * 2", ERROR);
        // a product beyond a long, which would come back as a small value
        due("(8000 * 5000 * 5000 * 5) * (8000 * 5000 * 5000 * 5)", ERROR);
        due("(0 - 8000 * 5000 * 5000 * 5) * (8000 * 5000 * 5000 * 5)", ERROR);
        due("(4096 * 4096 * 4096) * (4096 * 4096 * 4096)", ERROR);
        due("(0 - 9999) * 9999 * 9999", -999700029999L);
        due("(0 - 9999) * 9999 * 9999 * 0", 0);
        due("0 * 9999 * 9999 * 9999 * 9999 * 9999", 0);
    }

    private static void namesOfDue() {
        WindowLoans x = Check.told("house a;house b;hole p b 2;hole q b 5;hole r a 7;pane u 2 in p;"
            + "pane v 5 in q;pane w 7 in r;pane z 9;"
            + "law due panes * 1000 + size * 100 + place * 10 + far + night;");
        CHECK.due("due of a", x.law(0, 0, 0), 1700);
        CHECK.due("due of b", x.law(0, 1, -5), 2710);
        CHECK.due("due of c", x.law(0, 2, 0), ERROR);
        CHECK.due("due of -1", x.law(0, -1, 0), ERROR);
        x.nights(4);
        CHECK.due("due of b later", x.law(0, 1, 0), 2714);
        CHECK.due("as paid", x.house(1, 3), 2714);
        x.bird(0);
        CHECK.due("due of b, one broken", x.law(0, 1, 0), 1514);
        x.nights(57);
        CHECK.due("on the night behind the last", x.law(0, 0, 0), 1761);
    }

    private static void namesOfSnap() {
        WindowLoans x = Check.told("house a;house b;house c;hole p a 2;hole q b 2;hole r c 2;hole s c 2;"
            + "hole t b 3;pane u 2 in p;pane v 2 in r;pane w 2;"
            + "law snap panes * 1000 + size * 100 + place * 10 + far + night * 5000 * 2;");
        CHECK.due("u to b", x.law(1, 0, 1), 211);
        CHECK.due("u to c", x.law(1, 0, 3), 1222);
        CHECK.due("u to where one hangs", x.law(1, 0, 2), 1222);
        CHECK.due("u to where it is", x.law(1, 0, 0), 1200);
        CHECK.due("v within c", x.law(1, 1, 3), 1220);
        CHECK.due("v to a", x.law(1, 1, 0), 1202);
        CHECK.due("w from store", x.law(1, 2, 3), 1220);
        CHECK.due("no such pane", x.law(1, 3, 0), ERROR);
        CHECK.due("pane -1", x.law(1, -1, 0), ERROR);
        CHECK.due("no such hole", x.law(1, 0, 5), ERROR);
        CHECK.due("hole -1", x.law(1, 0, -1), ERROR);
        x.nights(2);
        CHECK.due("on another night", x.law(1, 0, 1), 20211);
        x.bird(0);
        CHECK.due("broken", x.law(1, 0, 1), ERROR);
    }

    private static void namesOfHarm() {
        WindowLoans x = Check.told("house a;house b;hole p b 2;hole q b 5;hole r a 7;pane u 2 in p;"
            + "pane v 5 in q;law harm panes * 1000 + size * 100 + place * 10 + far + night * 5000 * 2;");
        CHECK.due("harm of p", x.law(2, 0, 0), 2210);
        CHECK.due("harm of q", x.law(2, 1, 99), 2510);
        CHECK.due("harm of r, none hangs", x.law(2, 2, 0), ERROR);
        CHECK.due("no such hole", x.law(2, 3, 0), ERROR);
        CHECK.due("hole -1", x.law(2, -1, 0), ERROR);
        x.nights(1);
        x.bird(1);
        CHECK.due("on another night, one broken", x.law(2, 0, 0), 11210);
        CHECK.due("the broken one", x.law(2, 1, 0), ERROR);
    }

    private static void bounds() {
        String terrace = "house a;hole p a 4;hole q a 4;pane u 4 in p;tax 0;carriers 9;";
        WindowLoans x = Check.told(terrace + "law due 9999 * 2;law harm 9999 + 1;");
        CHECK.due("due above", x.house(0, 3), 9999);
        CHECK.due("due as it is", x.law(0, 0, 0), 19998);
        x = Check.told(terrace + "law due 0 - 1;law snap 0 - 1;");
        CHECK.due("due below", x.house(0, 3), 0);
        CHECK.due("due below as it is", x.law(0, 0, 0), -1);
        CHECK.due("snap below", x.move(0, 1), 1);
        x = Check.told(terrace + "law due 1 / 0;law snap 1 / 0;");
        CHECK.due("due with an error", x.house(0, 3), 1);
        CHECK.due("snap with an error", x.move(0, 1), 1);
        x = Check.told(terrace + "law snap 101;");
        CHECK.due("due without", x.house(0, 3), 1);
        CHECK.due("snap above", x.move(0, 1), 0);
        x = Check.told(terrace);
        CHECK.due("snap without", x.move(0, 1), 1);
        x.nights(1);
        CHECK.due("paid without", x.house(0, 2), 1);
    }

    private static void missing() {
        WindowLoans x = Check.told("house a;hole p a 4;pane u 4 in p;");
        CHECK.due("no due", x.law(0, 0, 0), ERROR);
        CHECK.due("no snap", x.law(1, 0, 0), ERROR);
        CHECK.due("no harm", x.law(2, 0, 0), ERROR);
        x = Check.told("house a;hole p a 4;pane u 4 in p;law due 1;law snap 2;law harm 3;");
        CHECK.due("due", x.law(0, 0, 0), 1);
        CHECK.due("snap", x.law(1, 0, 0), 2);
        CHECK.due("harm", x.law(2, 0, 0), 3);
        CHECK.due("what 3", x.law(3, 0, 0), ERROR);
        CHECK.due("what -1", x.law(-1, 0, 0), ERROR);
        Check.tell(x, "house a;hole p a 4;pane u 4 in p;law harm 4;");
        CHECK.due("a law of the text ahead is gone", x.law(0, 0, 0), ERROR);
        CHECK.due("its own law", x.law(2, 0, 0), 4);
    }
}
