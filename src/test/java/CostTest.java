/** Promises 17 to 21: least tax, where panes are in it, most, shutting and its order. */
public final class CostTest {
    private static final Check CHECK = new Check();

    public static void main(String[] args) {
        leastTax();
        leastTies();
        wrong();
        most();
        shutting();
        shuttingTies();
        CHECK.end();
    }

    private static void leastTax() {
        WindowLoans x = Check.told("house a;house b;hole p a 1;hole q b 1;hole r b 1;pane u 1 in p;pane v 1 in q;"
            + "law due (place = 0) * panes * 10 + (place = 1) * (5 - panes) + night * 100;carriers 0;");
        CHECK.due("no moves", x.least(0, 0, 0), 14);
        CHECK.due("no moves: moves", x.least(0, 0, 1), 0);
        CHECK.due("one move", x.least(0, 1, 0), 3);
        CHECK.due("one move: moves", x.least(0, 1, 1), 1);
        CHECK.due("u goes to r", x.placed(0, 1, 0), 2);
        CHECK.due("v stays", x.placed(0, 1, 1), 1);
        CHECK.due("more moves help no more", x.least(0, 9, 1), 1);
        CHECK.due("on another night", x.least(60, 1, 0), 12003);
        CHECK.due("nothing moved", x.look(0, 0), 0);
        x.nights(61);
        CHECK.due("of a night gone by", x.least(0, 1, 0), 3);
        x.bird(0);
        CHECK.due("a broken one stays so", x.placed(0, 9, 0), -2);
        CHECK.due("without it", x.least(0, 0, 0), 4);
        x = Check.told("house a;hole p a 1;pane u 1 in p;");
        CHECK.due("light without a law", x.least(0, 0, 0), 1);
        CHECK.due("to store", x.placed(0, 1, 0), -2);
        CHECK.due("nothing left", x.least(0, 1, 0), 0);
        x = Check.told("house a;house b;hole p a 1;pane u 1 in p;law due 9999 + panes;");
        CHECK.due("each at most 9999", x.least(0, 4, 0), 19998);
        CHECK.due("so no moves", x.least(0, 4, 1), 0);
    }

    private static void leastTies() {
        WindowLoans x = Check.told("house a;house b;hole p a 1;hole q a 1;hole r b 1;pane u 1 in r;pane v 1 in p;"
            + "law due (place = 0) * (panes < 2) * 7;");
        CHECK.due("the fewest moves", x.least(3, 9, 1), 1);
        CHECK.due("u joins", x.placed(3, 9, 0), 1);
        CHECK.due("v stays", x.placed(3, 9, 1), 0);
        x = Check.told("house a;hole p a 1;hole q a 1;hole r a 1;pane u 1;pane v 1;law due 5 - panes;");
        CHECK.due("two moves", x.least(3, 2, 1), 2);
        CHECK.due("the first order, u", x.placed(3, 2, 0), 0);
        CHECK.due("the first order, v", x.placed(3, 2, 1), 1);
        CHECK.due("one move: u ahead of store", x.placed(3, 1, 0), 0);
        CHECK.due("one move: v", x.placed(3, 1, 1), -2);
    }

    private static void wrong() {
        WindowLoans x = Check.told("house a;hole p a 1;pane u 1 in p;");
        CHECK.due("night 61", x.least(61, 0, 0), -1);
        CHECK.due("night -1", x.least(-1, 0, 0), -1);
        CHECK.due("10 moves", x.least(0, 10, 0), -1);
        CHECK.due("-1 moves", x.least(0, -1, 0), -1);
        CHECK.due("what 2", x.least(0, 0, 2), -1);
        CHECK.due("what -1", x.least(0, 0, -1), -1);
        CHECK.due("placed: night 61", x.placed(61, 0, 0), -1);
        CHECK.due("placed: night -1", x.placed(-1, 0, 0), -1);
        CHECK.due("placed: 10 moves", x.placed(0, 10, 0), -1);
        CHECK.due("placed: -1 moves", x.placed(0, -1, 0), -1);
        CHECK.due("placed: pane 1", x.placed(0, 0, 1), -1);
        CHECK.due("placed: pane -1", x.placed(0, 0, -1), -1);
        CHECK.due("placed", x.placed(60, 9, 0), -2);
    }

    private static void most() {
        String terrace = "house a;hole p a 1;hole q a 2;hole r a 3;";
        CHECK.due("nothing told", new WindowLoans().most(), 0);
        CHECK.due("two of a size, one hole", Check.told(terrace + "pane u 1;pane v 1;").most(), 1);
        CHECK.due("by a frame", Check.told(terrace + "pane u 1;pane v 1;frame 1 2;").most(), 2);
        CHECK.due("the frame is for one way", Check.told(terrace + "pane u 1;pane v 1;frame 2 1;").most(), 1);
        // the first pane must give way to the second one
        CHECK.due("one gives way", Check.told(terrace + "pane u 1;pane v 1;pane w 2;frame 1 2;frame 1 3;").most(), 3);
        WindowLoans x = Check.told(terrace + "pane u 1 in p;pane v 2 in q;");
        CHECK.due("both", x.most(), 2);
        x.bird(1);
        CHECK.due("a broken one can't", x.most(), 1);
        x.undo();
        CHECK.due("both again", x.most(), 2);
    }

    private static void shutting() {
        WindowLoans x = Check.told("house a;house b;hole p a 1;hole q b 5;hole r b 3;hole s a 9;pane u 3 in r;"
            + "pane v 1 in p;pane w 5 in q;pane z 9;");
        CHECK.due("first", x.shut(0), 1);
        CHECK.due("by sizes without a law", x.shutting(), 5);
        CHECK.due("second", x.shut(1), 2);
        CHECK.due("third", x.shut(2), 0);
        CHECK.due("no so many", x.shut(3), -2);
        CHECK.due("a high k", x.shut(Integer.MAX_VALUE), -2);
        CHECK.due("below 0", x.shut(-1), -1);
        CHECK.due("the lowest k", x.shut(Integer.MIN_VALUE), -1);
        x.bird(1);
        CHECK.due("one less", x.shutting(), 1);
        CHECK.due("one less: first", x.shut(0), 2);
        CHECK.due("one less: no so many", x.shut(2), -2);
        x = Check.told("house a;hole p a 1;hole q a 5;hole r a 3;pane u 3 in r;pane v 1 in p;pane w 5 in q;"
            + "law harm (5 - size) * 9999;");
        CHECK.due("0 to 9999", x.shutting(), 9999);
        CHECK.due("first", x.shut(0), 0);
        CHECK.due("second", x.shut(1), 2);
        CHECK.due("third", x.shut(2), 1);
        x = Check.told("house a;hole p a 1;hole q a 5;hole r a 3;pane u 3 in r;pane v 1 in p;pane w 5 in q;"
            + "law harm 4 / (size - 3);");
        CHECK.due("an error: the size; below 0: 0", x.shutting(), 2);
        CHECK.due("first, by its size", x.shut(0), 2);
        CHECK.due("second", x.shut(1), 1);
        CHECK.due("third", x.shut(2), 0);
    }

    private static void shuttingTies() {
        WindowLoans x = Check.told("house a;hole p a 1;hole q a 1;hole r a 2;hole s a 1;pane u 1 in s;pane v 1 in q;"
            + "pane w 2 in r;pane z 1 in p;");
        CHECK.due("cost", x.shutting(), 6);
        int[] want = {2, 0, 1, 3};
        for (int k = 0; k < 4; k++) {
            CHECK.due("shut(" + k + ")", x.shut(k), want[k]);
        }
        x = Check.told("house a;hole p a 1;pane u 1;");
        CHECK.due("nothing hangs", x.shutting(), 0);
        CHECK.due("nothing to shut", x.shut(0), -2);
        x.move(0, 0);
        CHECK.due("the first costs nothing", x.shutting(), 0);
        CHECK.due("one to shut", x.shut(0), 0);
    }
}
