/** Boundary cases of promises 17 to 21: least tax, where panes are in it, most, shutting. */
final class CostEdges {
    private static final int LOWEST = Integer.MIN_VALUE;
    private static final int HIGHEST = Integer.MAX_VALUE;
    /** Each pane in a's holes costs 10, each in b's holes saves 1 of 5. */
    private static final String TAXED = "house a;house b;hole p a 1;hole q b 1;hole r b 1;hole s a 1;pane u 1 in p;pane v 1 in s;"
        + "law due (place = 0) * panes * 10 + (place = 1) * (5 - panes) + night * 100;carriers 0;";

    private CostEdges() {
    }

    // ---- promises 17 and 18

    @Sentence(promise = 17, says = "LEAST TAX by m MOVES (0 .. 9) on a NIGHT (0 .. 60), what 0: the sum, 1: how many MOVES")
    static void leastTax(Check c) {
        WindowLoans x = Check.told(TAXED);
        int[] sums = {25, 14, 3, 3, 3, 3, 3, 3, 3, 3};
        for (int m = 0; m <= 9; m++) {
            c.due("least(0, " + m + ", 0)", x.least(0, m, 0), sums[m]);
            c.due("least(0, " + m + ", 1)", x.least(0, m, 1), Math.min(m, 2));
        }
        c.due("on the last night", x.least(60, 9, 0), 12003);
        x.nights(61);
        c.due("on a night gone by", x.least(0, 9, 0), 3);
        c.due("nothing is moved by asking", x.look(0, 0), 0);
    }

    @Sentence(promise = 17, says = "the sum of all HOUSES")
    static void allHousesAndPanes(Check c) {
        // a pane in the first house saves 1, one in another house costs the more the further it is
        WindowLoans x = Check.told("house a;house b;house c;house d;house e;hole p a 1;hole q b 1;hole r c 1;hole s d 1;"
            + "hole t e 1;hole w e 1;pane u 1 in q;pane v 1 in r;pane w 1 in t;pane z 1 in w;law due 1 + panes * (place * 10 - 1);");
        int[] sums = {1 + 10 + 20 + 1 + 79, 10 + 20 + 1 + 40, 10 + 20 + 1 + 1, 10 + 1 + 1 + 1, 1 + 1 + 1 + 1};
        for (int m = 0; m <= 9; m++) {
            c.due("least(0, " + m + ", 0)", x.least(0, m, 0), sums[Math.min(m, 4)]);
            c.due("least(0, " + m + ", 1)", x.least(0, m, 1), Math.min(m, 4));
        }
        c.due("the first of them in a", x.placed(0, 9, 0), 0);
        c.due("the last one in store", x.placed(0, 9, 3), -2);
    }

    @Sentence(promise = 17, says = "(nothing breaks; all at once)")
    static void twoChangePlaces(Check c) {
        WindowLoans x = Check.told("house a;house b;frame 1 2;frame 2 1;hole p a 1;hole q b 2;pane u 1 in q;pane v 2 in p;"
            + "law due place * (9 - size);law snap 100;carriers 0;");
        c.due("as it hangs", x.least(0, 0, 0), 8);
        c.due("one to store is no help", x.least(0, 1, 1), 0);
        c.due("changed", x.least(0, 2, 0), 7);
        c.due("by two moves", x.least(0, 9, 1), 2);
        c.due("u where v was", x.placed(0, 9, 0), 0);
        c.due("v where u was", x.placed(0, 9, 1), 1);
    }

    @Sentence(promise = 17, says = "NONE: no such ones")
    static void leastOfNoSuchOnes(Check c) {
        WindowLoans x = Check.told(TAXED);
        for (int night : new int[] {LOWEST, -1, 61, HIGHEST}) {
            c.due("night " + night, x.least(night, 0, 0), -1);
        }
        for (int m : new int[] {LOWEST, -1, 10, HIGHEST}) {
            c.due("m " + m, x.least(0, m, 0), -1);
        }
        for (int what : new int[] {LOWEST, -1, 2, HIGHEST}) {
            c.due("what " + what, x.least(0, 0, what), -1);
        }
    }

    @Sentence(promise = 17, says = "the sum of all HOUSES, of several ORDERS that with the fewest MOVES, then the first")
    static void fewestMovesThenFirst(Check c) {
        WindowLoans x = Check.told("house a;house b;hole p a 1;hole q a 1;hole r b 1;pane u 1 in r;pane v 1 in p;law due 7;");
        c.due("all cost the same", x.least(3, 9, 0), 14);
        c.due("no moves", x.least(3, 9, 1), 0);
        c.due("u stays, though p comes first", x.placed(3, 9, 0), 2);
        x = Check.told("house a;hole p a 1;hole q a 1;hole r a 1;pane u 1;pane v 1;law due 5 - panes;");
        c.due("one move: u to the first hole", x.placed(3, 1, 0), 0);
        c.due("one move: v stays", x.placed(3, 1, 1), -2);
        c.due("two moves: u", x.placed(3, 2, 0), 0);
        c.due("two moves: v", x.placed(3, 2, 1), 1);
        x = Check.told("house a;house b;hole p b 1;hole q a 1;hole r a 1;pane u 1 in p;law due (place = 1) * panes;");
        c.due("a hole ahead of store", x.placed(0, 1, 0), 1);
    }

    @Sentence(promise = 17, says = "by an ORDER at most so many MOVES from how it hangs now")
    static void fromHowItHangsNow(Check c) {
        WindowLoans x = Check.told(TAXED.replace("carriers 0", "carriers 9"));
        x.move(0, 1);
        c.due("one is moved", x.least(0, 0, 0), 14);
        c.due("one more", x.least(0, 1, 0), 3);
        c.due("by a move of the other", x.placed(0, 1, 1), 2);
        x.move(1, 2);
        c.due("none more needed", x.least(0, 9, 1), 0);
        c.due("moves tonight don't count", x.count(11), 2);
    }

    @Sentence(promise = 18, says = "Where a pane is in it (-2: STORE, BROKEN)")
    static void placedInStore(Check c) {
        WindowLoans x = Check.told("house a;hole p a 1;hole q a 1;pane u 1 in p;pane v 1 in q;");
        c.due("no moves", x.placed(0, 0, 0), 0);
        c.due("no moves, the last hole", x.placed(0, 0, 1), 1);
        c.due("to store", x.placed(0, 2, 0), -2);
        c.due("one move: the first stays in its hole", x.placed(0, 1, 0), 0);
        c.due("one move: the second goes to store", x.placed(0, 1, 1), -2);
        x.bird(0);
        c.due("broken", x.placed(0, 0, 0), -2);
        c.due("the other one", x.placed(0, 0, 1), 1);
        c.due("a broken one costs nothing", x.least(0, 0, 0), 1);
        x = Check.told("house a;hole p a 1;pane u 1 in p;law due 5 - panes;");
        x.bird(0);
        c.due("a broken one can't be hung", x.least(0, 9, 0), 5);
    }

    @Sentence(promise = 18, says = "NONE: no such ones")
    static void placedOfNoSuchOnes(Check c) {
        WindowLoans x = Check.told("house a;hole p a 1;pane u 1 in p;pane v 1;");
        c.due("the last pane", x.placed(60, 9, 1), -2);
        for (int night : new int[] {LOWEST, -1, 61, HIGHEST}) {
            c.due("night " + night, x.placed(night, 0, 0), -1);
        }
        for (int m : new int[] {LOWEST, -1, 10, HIGHEST}) {
            c.due("m " + m, x.placed(0, m, 0), -1);
        }
        for (int pane : new int[] {LOWEST, -1, 2, 3, 4, HIGHEST}) {
            c.due("pane " + pane, x.placed(0, 0, pane), -1);
        }
    }

    // ---- promise 19

    @Sentence(promise = 19, says = "MOST: how many panes can hang at once")
    static void mostAtOnce(Check c) {
        String terrace = "house a;hole p a 1;hole q a 2;hole r a 3;";
        c.due("nothing told", new WindowLoans().most(), 0);
        c.due("no panes", Check.told(terrace).most(), 0);
        c.due("no holes", Check.told("pane u 1;pane v 1;").most(), 0);
        c.due("one pane, one hole", Check.told("house a;hole p a 1;pane u 1;").most(), 1);
        c.due("none fits", Check.told(terrace + "pane u 9;").most(), 0);
        c.due("two for one hole", Check.told(terrace + "pane u 1;pane v 1;").most(), 1);
        c.due("by a frame", Check.told(terrace + "pane u 1;pane v 1;frame 1 2;").most(), 2);
        c.due("the first gives way", Check.told(terrace + "pane u 1;pane v 1;pane w 2;frame 1 2;frame 1 3;").most(), 3);
        c.due("more panes than holes", Check.told(terrace + "pane u 1;pane v 1;pane w 1;pane z 1;frame 1 2;frame 1 3;").most(), 3);
        WindowLoans x = Check.told("house a;hole a a 1;hole b a 1;hole c a 1;hole d a 1;hole e a 1;hole f a 1;"
            + "pane u 1 in f;pane v 1;pane w 1;pane z 1;carriers 0;");
        c.due("all four, without carriers", x.most(), 4);
        x.bird(5);
        c.due("a broken one can't", x.most(), 3);
        x.undo();
        c.due("whole again", x.most(), 4);
    }

    // ---- promises 20 and 21

    @Sentence(promise = 20, says = "(the first HOLE costs nothing, the next one once, then twice)")
    static void whatShuttingCosts(Check c) {
        String[] panes = {"", "pane u 7 in p;", "pane v 5 in q;", "pane w 3 in r;", "pane z 1 in s;"};
        int[] want = {0, 0, 5, 5 + 2 * 3, 5 + 2 * 3 + 3 * 1};
        String text = "house a;hole p a 7;hole q a 5;hole r a 3;hole s a 1;";
        c.due("nothing told", new WindowLoans().shutting(), 0);
        for (int k = 0; k < panes.length; k++) {
            text = text + panes[k];
            c.due(k + " panes", Check.told(text).shutting(), want[k]);
        }
    }

    @Sentence(promise = 20, says = "all HOLES in which a pane hangs are shut, one each hour")
    static void onlyHolesInWhichOneHangs(Check c) {
        WindowLoans x = Check.told("house a;hole p a 7;hole q a 5;hole r a 3;pane u 7 in p;pane v 5 in q;pane w 3;pane z 7;");
        c.due("of two", x.shutting(), 5);
        c.due("two to shut", x.shut(1), 1);
        c.due("no third", x.shut(2), -2);
        x.move(2, 2);
        c.due("of three", x.shutting(), 11);
        c.due("a third", x.shut(2), 2);
        x.bird(0);
        c.due("a broken one is no more", x.shutting(), 3);
        c.due("no third", x.shut(2), -2);
    }

    @Sentence(promise = 20, says = "the order that costs least")
    static void theOrderThatCostsLeast(Check c) {
        WindowLoans x = Check.told("house a;hole p a 1;hole q a 5;hole r a 3;hole s a 9;pane u 3 in r;pane v 1 in p;"
            + "pane w 5 in q;pane z 9 in s;");
        int[] want = {3, 1, 2, 0};
        for (int k = 0; k < 4; k++) {
            c.due("shut(" + k + ")", x.shut(k), want[k]);
        }
        c.due("what it costs", x.shutting(), 5 + 2 * 3 + 3);
        x = Check.told("house a;hole p a 1;hole q a 2;pane u 1 in p;pane v 2 in q;law harm 5 - size;");
        c.due("by the law, not by sizes", x.shut(0), 0);
        c.due("what it costs", x.shutting(), 3);
    }

    @Sentence(promise = 21, says = "of several the first by HOLES")
    static void firstByHoles(Check c) {
        WindowLoans x = Check.told("house a;hole p a 1;hole q a 2;hole r a 1;hole s a 2;pane u 1 in r;pane v 2 in s;"
            + "pane w 1 in p;pane z 2 in q;");
        int[] want = {1, 3, 0, 2};
        for (int k = 0; k < 4; k++) {
            c.due("shut(" + k + ")", x.shut(k), want[k]);
        }
        x = Check.told("house a;hole p a 1;hole q a 1;hole r a 1;pane u 1 in r;pane v 1 in q;pane w 1 in p;law harm 0;");
        for (int k = 0; k < 3; k++) {
            c.due("all cost nothing: shut(" + k + ")", x.shut(k), k);
        }
        // values beyond the bounds are the same then
        x = Check.told("house a;hole p a 1;hole q a 2;pane u 1 in p;pane v 2 in q;law harm 9999 * size;");
        c.due("both cost 9999", x.shut(0), 0);
    }

    @Sentence(promise = 21, says = "-2: there are no so many")
    static void noSoManyToShut(Check c) {
        WindowLoans x = Check.told("house a;hole p a 1;hole q a 1;pane u 1 in q;");
        c.due("the last one", x.shut(0), 1);
        c.due("one more", x.shut(1), -2);
        c.due("as many as holes", x.shut(6), -2);
        c.due("far more", x.shut(HIGHEST), -2);
        c.due("nothing told", new WindowLoans().shut(0), -2);
    }

    @Sentence(promise = 21, says = "NONE: k is below 0")
    static void shutBelowNought(Check c) {
        WindowLoans x = Check.told("house a;hole p a 1;pane u 1 in p;");
        c.due("shut(-1)", x.shut(-1), -1);
        c.due("shut(-2)", x.shut(-2), -1);
        c.due("the lowest k", x.shut(LOWEST), -1);
        c.due("nothing told", new WindowLoans().shut(-1), -1);
    }
}
