/** Promises 14 to 16: plans of feasts, where panes hang in them, how many carriers they need. */
public final class PlanTest {
    private static final Check CHECK = new Check();
    private static final String TERRACE = "house a;house b;hole p a 1;hole q a 1;hole r b 1;hole s b 2;";

    public static void main(String[] args) {
        wrong();
        fewest();
        ties();
        several();
        budgets();
        fewestCarriers();
        broken();
        CHECK.end();
    }

    private static void wrong() {
        WindowLoans x = Check.told(TERRACE + "pane u 1;feast 0 a 1;feast 2 b 1;");
        CHECK.due("no such feast", x.plan(4), -1);
        CHECK.due("below 0", x.plan(-1), -1);
        CHECK.due("the lowest number", x.plan(Integer.MIN_VALUE), -1);
        CHECK.due("hangs: no such feast", x.hangs(4, 2, 0), -1);
        CHECK.due("hangs: not of these", x.hangs(1, 1, 0), -1);
        CHECK.due("hangs: feast -1", x.hangs(3, -1, 0), -1);
        CHECK.due("hangs: feast 32", x.hangs(3, 32, 0), -1);
        CHECK.due("hangs: pane 1", x.hangs(1, 0, 1), -1);
        CHECK.due("hangs: pane -1", x.hangs(1, 0, -1), -1);
        CHECK.due("hangs: none", x.hangs(0, 0, 0), -1);
        CHECK.due("carriers: no such feast", x.carriers(4), -1);
        CHECK.due("carriers: below 0", x.carriers(-1), -1);
        CHECK.due("of none", x.plan(0), 0);
        CHECK.due("carriers of none", x.carriers(0), 0);
        x.nights(1);
        CHECK.due("over", x.plan(1), -1);
        CHECK.due("one over", x.plan(3), -1);
        CHECK.due("hangs: one over", x.hangs(3, 1, 0), -1);
        CHECK.due("carriers: one over", x.carriers(3), -1);
        CHECK.due("ahead", x.plan(2), 1);
    }

    private static void fewest() {
        WindowLoans x = Check.told(TERRACE + "pane u 1 in p;pane v 1;pane w 2;"
            + "feast 0 b 1;feast 0 b 2;feast 0 b 3;feast 0 a 0;feast 0 a 1;");
        CHECK.due("one move", x.plan(1), 1);
        CHECK.due("u stays", x.hangs(1, 0, 0), 0);
        CHECK.due("the first order", x.hangs(1, 0, 1), 2);
        CHECK.due("w lies in store", x.hangs(1, 0, 2), -2);
        CHECK.due("two moves", x.plan(2), 2);
        CHECK.due("at once", x.plan(3), 2);
        CHECK.due("too much wanted", x.plan(4), -2);
        CHECK.due("hangs: there is none", x.hangs(4, 2, 0), -3);
        CHECK.due("none wanted", x.plan(8), 0);
        CHECK.due("none wanted: as it hangs", x.hangs(8, 3, 0), 0);
        CHECK.due("lit already", x.plan(16), 0);
        CHECK.due("both", x.plan(18), 2);
        CHECK.due("u stays then", x.hangs(18, 1, 0), 0);
        CHECK.due("v goes to r", x.hangs(18, 4, 1), 2);
        CHECK.due("w goes to s", x.hangs(18, 4, 2), 3);
        CHECK.due("nothing moved by it", x.look(1, 0), -1);
    }

    private static void ties() {
        WindowLoans x = Check.told(TERRACE + "pane u 1 in r;pane v 1;feast 1 a 1;");
        CHECK.due("one move", x.plan(1), 1);
        CHECK.due("the first pane at the first hole", x.hangs(1, 0, 0), 0);
        CHECK.due("the second stays", x.hangs(1, 0, 1), -2);
        x = Check.told(TERRACE + "pane u 1;pane v 1 in r;feast 1 a 1;");
        CHECK.due("by the first pane, a hole comes ahead of store", x.hangs(1, 0, 0), 0);
        CHECK.due("the second stays", x.hangs(1, 0, 1), 2);
        // the first night's order is the first one, though the second night's could be an earlier one
        x = Check.told("house a;house b;hole p a 1;hole q a 2;hole r b 1;hole s b 2;pane u 1;pane v 2;"
            + "feast 0 a 1;feast 1 b 1;");
        CHECK.due("two moves", x.plan(3), 2);
        CHECK.due("first night, u", x.hangs(3, 0, 0), 0);
        CHECK.due("first night, v", x.hangs(3, 0, 1), 3);
        CHECK.due("second night, u", x.hangs(3, 1, 0), 0);
        CHECK.due("second night, v", x.hangs(3, 1, 1), 3);
    }

    private static void several() {
        WindowLoans x = Check.told("house a;house b;house c;hole p a 1;hole q b 1;hole r c 1;pane u 1;"
            + "feast 5 c 1;feast 1 a 1;feast 3 b 1;feast 3 a 1;carriers 1;");
        CHECK.due("by nights, not by numbers", x.plan(7), 3);
        CHECK.due("night 1", x.hangs(7, 1, 0), 0);
        CHECK.due("night 3", x.hangs(7, 2, 0), 1);
        CHECK.due("night 5", x.hangs(7, 0, 0), 2);
        CHECK.due("two houses, one pane", x.plan(12), -2);
        CHECK.due("no carriers help", x.carriers(12), -2);
    }

    private static void budgets() {
        String text = TERRACE + "pane u 1;pane v 1;pane w 2;feast 1 b 2;feast 2 a 2;carriers 1;";
        WindowLoans x = Check.told(text);
        CHECK.due("two nights, two moves", x.plan(1), 2);
        x.nights(1);
        CHECK.due("one night is too short", x.plan(1), -2);
        x = Check.told(text);
        x.move(1, 2);
        CHECK.due("a move of tonight is gone, but done", x.plan(1), 1);
        x.move(1, -1);
        x.undo();
        x = Check.told(text);
        x.move(1, 0);
        CHECK.due("a move of tonight is gone", x.plan(1), -2);
        x = Check.told(text);
        CHECK.due("two moves by the last night", x.plan(2), 2);
        CHECK.due("one night for two moves", x.plan(3), -2);
        CHECK.due("carriers for both", x.carriers(3), 2);
        // moves of tonight beyond what a plan may ask for leave 0, not less
        x = Check.told(TERRACE + "pane u 1;feast 0 a 0;carriers 3;");
        x.move(0, 0);
        x.move(0, 1);
        CHECK.due("no moves left, none needed", x.carriers(1), 0);
        CHECK.due("a plan of no moves", x.plan(1), 0);
    }

    private static void fewestCarriers() {
        WindowLoans x = Check.told("house a;hole p a 1;hole q a 1;hole r a 1;hole s a 1;pane u 1;pane v 1;"
            + "pane w 1;pane z 1;feast 0 a 4;feast 1 a 4;feast 3 a 3;feast 60 a 1;feast 0 a 5;carriers 0;");
        CHECK.due("all tonight", x.carriers(1), 4);
        CHECK.due("by tomorrow", x.carriers(2), 2);
        CHECK.due("by four nights", x.carriers(4), 1);
        CHECK.due("by the last night", x.carriers(8), 1);
        CHECK.due("too many", x.carriers(16), -2);
        CHECK.due("no carriers, no plan", x.plan(8), -2);
        x = Check.told("house a;hole p a 1;hole q a 1;pane u 1;pane v 1;feast 0 a 2;carriers 9;");
        for (int k = 0; k < 8; k++) {
            x.move(0, k % 2 == 0 ? 0 : -1);
        }
        CHECK.due("eight moves were made tonight", x.carriers(1), -2);
        x.undo();
        CHECK.due("seven, and one hangs", x.carriers(1), 8);
    }

    private static void broken() {
        WindowLoans x = Check.told(TERRACE + "pane u 1 in p;pane v 1 in q;feast 5 a 2;feast 5 a 1;");
        x.bird(0);
        CHECK.due("broken ones light nothing", x.plan(1), -2);
        CHECK.due("the other one does", x.plan(2), 0);
        CHECK.due("a broken one", x.hangs(2, 1, 0), -2);
        CHECK.due("the other one", x.hangs(2, 1, 1), 1);
    }
}
