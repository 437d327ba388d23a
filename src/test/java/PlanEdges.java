/** Boundary cases of promises 14, 15 and 16: plans, where panes hang in them, carriers for them. */
final class PlanEdges {
    private static final String TERRACE = "house a;house b;hole p a 1;hole q a 1;hole r b 1;hole s b 2;";
    private static final int LOWEST = Integer.MIN_VALUE;
    private static final int HIGHEST = Integer.MAX_VALUE;

    private PlanEdges() {
    }

    private static WindowLoans twoFeasts() {
        return Check.told(TERRACE + "pane u 1;feast 0 a 1;feast 2 b 1;");
    }

    // ---- promise 14

    @Sentence(promise = 14, says = "the fewest MOVES (0 of none)")
    static void noMovesOfNoFeasts(Check c) {
        c.due("nothing told", new WindowLoans().plan(0), 0);
        WindowLoans x = twoFeasts();
        c.due("of none", x.plan(0), 0);
        x.nights(61);
        c.due("of none behind the last night", x.plan(0), 0);
        // what was asked ahead of it must not linger
        WindowLoans dark = Check.told("house a;house b;hole p a 1;pane u 1;feast 0 a 1;feast 0 b 1;");
        c.due("of one", dark.plan(1), 1);
        c.due("of none behind one", dark.plan(0), 0);
        c.due("of one that can't be lit", dark.plan(2), -2);
        c.due("of none behind no plan", dark.plan(0), 0);
        c.due("carriers of none behind no plan", dark.carriers(0), 0);
    }

    @Sentence(promise = 14, says = "PLAN: the fewest MOVES in all")
    static void fewestInAll(Check c) {
        // v to b's hole lights both nights, though u alone would do on each
        WindowLoans x = Check.told(TERRACE + "pane u 1 in p;pane v 1;feast 0 a 1;feast 1 b 1;feast 2 a 1;feast 3 a 2;carriers 9;");
        c.due("lit already", x.plan(1), 0);
        c.due("one by one", x.plan(2), 1);
        c.due("three nights", x.plan(7), 1);
        c.due("then two in a", x.plan(15), 2);
        c.due("nothing is moved by asking", x.look(1, 0), -1);
        c.due("nor counted", x.count(11), 0);
    }

    @Sentence(promise = 14, says = "From one to another one it takes as many MOVES as panes are elsewhere")
    static void asManyMovesAsPanesElsewhere(Check c) {
        for (int stored = 0; stored < 16; stored++) {
            StringBuilder text = new StringBuilder("house a;hole p a 1;hole q a 2;hole r a 3;hole s a 4;feast 0 a 4;feast 1 a 4;");
            for (int pane = 0; pane < 4; pane++) {
                String in = (stored >> pane & 1) != 0 ? "" : " in " + "pqrs".charAt(pane);
                text.append("pane ").append("uvwz".charAt(pane)).append(' ').append(pane + 1).append(in).append(';');
            }
            int moves = Integer.bitCount(stored);
            c.due(stored + " in store", Check.told(text + "carriers 9;").plan(1), moves);
            c.due(stored + " in store, two nights", Check.told(text + "carriers 9;").plan(3), moves);
            c.due(stored + " in store, just enough", Check.told(text + "carriers " + moves + ";").plan(1), moves);
            c.due(stored + " in store, carriers", Check.told(text.toString()).carriers(1), moves);
            if (moves > 0) {
                c.due(stored + " in store, too few", Check.told(text + "carriers " + (moves - 1) + ";").plan(1), -2);
            }
        }
    }

    @Sentence(promise = 14, says = "PLAN: the fewest MOVES in all")
    static void asMuchAsThereCanBe(Check c) {
        // five feasts on five nights, four panes that fit all of six holes: three must hang in a, then in b, and so on
        WindowLoans x = Check.told("house a;house b;hole p a 1;hole q a 1;hole r a 1;hole s b 1;hole t b 1;hole w b 1;"
            + "pane u 1;pane v 1;pane w 1;pane z 1;feast 0 a 3;feast 1 b 3;feast 2 a 3;feast 3 b 3;feast 4 a 1;carriers 9;");
        c.due("four to hang, two to change three times", x.plan(31), 4 + 3 * 2);
        c.due("three on the first night, the fourth on the next", x.carriers(31), 3);
        int[] inA = {0, 1, 2, 3};
        int[] inB = {0, 4, 5, 3};
        for (int pane = 0; pane < 4; pane++) {
            c.due("pane " + pane + " on night 0", x.hangs(31, 0, pane), inA[pane]);
            c.due("pane " + pane + " on night 1", x.hangs(31, 1, pane), inB[pane]);
            c.due("pane " + pane + " on night 2", x.hangs(31, 2, pane), inA[pane]);
            c.due("pane " + pane + " on night 3", x.hangs(31, 3, pane), inB[pane]);
            c.due("pane " + pane + " on night 4", x.hangs(31, 4, pane), inB[pane]);
        }
    }

    @Sentence(promise = 14, says = "(nothing breaks; all at once)")
    static void nothingBreaksInAPlan(Check c) {
        // u must go where v hangs, and v where w hangs
        WindowLoans x = Check.told("house a;house b;house c;house d;frame 1 2;frame 2 3;frame 3 4;hole p a 1;hole q b 2;"
            + "hole r c 3;hole s d 4;pane u 1 in p;pane v 2 in q;pane w 3 in r;feast 0 b 1;feast 0 c 1;feast 0 d 1;"
            + "carriers 3;law snap 100;");
        c.due("all three", x.plan(7), 3);
        for (int pane = 0; pane < 3; pane++) {
            c.due("pane " + pane, x.hangs(7, 0, pane), pane + 1);
        }
        c.due("none is broken by asking", x.count(9), 0);
    }

    @Sentence(promise = 14, says = "-2: there is none")
    static void noPlan(Check c) {
        WindowLoans x = Check.told(TERRACE + "pane u 1;pane v 2;feast 0 a 1;feast 0 a 2;feast 0 b 1;feast 0 b 2;feast 1 b 6;"
            + "carriers 2;");
        c.due("one", x.plan(1), 1);
        c.due("v doesn't fit there", x.plan(2), -2);
        c.due("both at once", x.plan(5), 2);
        c.due("two in b", x.plan(8), 2);
        c.due("three panes wanted", x.plan(9), -2);
        c.due("more than there are", x.plan(16), -2);
        c.due("one of them can't be", x.plan(17), -2);
    }

    @Sentence(promise = 14, says = "NONE: no such ones, one that is over")
    static void noSuchFeastsToPlan(Check c) {
        WindowLoans x = twoFeasts();
        for (int feasts : new int[] {LOWEST, -1, 4, 5, 7, 8, 1 << 5, 1 << 30, HIGHEST}) {
            c.due("plan(" + feasts + ")", x.plan(feasts), -1);
        }
        c.due("both", x.plan(3), 2);
        x.nights(1);
        c.due("over", x.plan(1), -1);
        c.due("one of two is over", x.plan(3), -1);
        c.due("the other one", x.plan(2), 1);
        x.nights(1);
        c.due("on its night", x.plan(2), 1);
        x.nights(1);
        c.due("over too", x.plan(2), -1);
        WindowLoans five = Check.told("house a;" + "feast 60 a 0;".repeat(5));
        c.due("five feasts", five.plan(31), 0);
        c.due("a sixth", five.plan(32), -1);
        five.nights(60);
        c.due("on the last night", five.plan(31), 0);
        five.nights(1);
        c.due("behind the last night", five.plan(31), -1);
    }

    @Sentence(promise = 14, says = "at most as many MOVES as carriers times NIGHTS")
    static void asManyMovesAsCarriersTimesNights(Check c) {
        // four panes for feasts on nights 0 to 4, by one carrier
        String text = "house a;hole p a 1;hole q a 1;hole r a 1;hole s a 1;pane u 1;pane v 1;pane w 1;pane z 1;";
        for (int night = 0; night <= 4; night++) {
            for (int wants = 0; wants <= 4; wants++) {
                WindowLoans x = Check.told(text + "carriers 1;feast " + night + " a " + wants + ";");
                c.due(wants + " panes, night " + night, x.plan(1), wants <= night + 1 ? wants : -2);
            }
        }
        WindowLoans x = Check.told(text + "carriers 0;feast 60 a 1;feast 60 a 0;");
        c.due("without carriers", x.plan(1), -2);
        c.due("none wanted without carriers", x.plan(2), 0);
        x = Check.told(text + "carriers 1;feast 3 a 4;");
        x.nights(1);
        c.due("from the night that is next", x.plan(1), -2);
        x = Check.told(text + "carriers 2;feast 3 a 4;");
        x.nights(2);
        c.due("two nights of two carriers", x.plan(1), 4);
        x.nights(1);
        c.due("one night of two carriers", x.plan(1), -2);
        x = Check.told(text + "carriers 1;feast 0 a 0;feast 2 a 2;feast 1 a 4;");
        c.due("a feast that isn't asked for", x.plan(2), 2);
        x.nights(2);
        c.due("one night of one carrier, others are over", x.plan(2), -2);
    }

    @Sentence(promise = 14, says = "(less MOVES tonight, 0 at least)")
    static void lessMovesTonight(Check c) {
        WindowLoans x = Check.told(TERRACE + "pane u 1;pane v 2;feast 1 a 1;feast 1 a 0;carriers 1;");
        c.due("two nights", x.plan(1), 1);
        x.move(1, 3);
        c.due("tonight's is gone, tomorrow's isn't", x.plan(1), 1);
        x.nights(1);
        c.due("moves of the night ahead don't count", x.plan(1), 1);
        x.move(1, -1);
        c.due("tonight's is gone", x.plan(1), -2);
        c.due("none needed", x.plan(2), 0);
        x.undo();
        c.due("it is undone", x.plan(1), 1);
        // with fewer carriers than moves were made tonight: 0 moves, not less
        x = Check.told(TERRACE + "pane u 1;feast 0 a 1;carriers 9;");
        x.move(0, 0);
        x.move(0, -1);
        x.move(0, 0);
        c.due("carriers that can't have moved so much", x.carriers(1), 0);
    }

    @Sentence(promise = 14, says = "then from the NIGHT behind those up to that of the next ones")
    static void nightsBetweenFeasts(Check c) {
        // one pane to a, then two panes to b, by one carrier
        String text = "house a;house b;hole p a 1;hole q b 2;hole r b 2;pane u 1;pane v 2;pane w 2;carriers 1;";
        c.due("two nights and one", Check.told(text + "feast 1 a 1;feast 2 b 2;").plan(3), 3);
        c.due("one night and one", Check.told(text + "feast 0 a 1;feast 1 b 2;").plan(3), -2);
        c.due("one night and two", Check.told(text + "feast 0 a 1;feast 2 b 2;").plan(3), 3);
        // both panes must hang in a first, then both elsewhere: moves left ahead of that are of no use
        String both = "house a;house b;house c;hole p a 1;hole q b 1;hole r c 2;hole s a 2;pane v 2 in s;carriers 1;";
        String hung = both + "pane u 1 in p;";
        c.due("two moves on one night", Check.told(hung + "feast 5 a 2;feast 6 b 1;feast 6 c 1;").plan(7), -2);
        c.due("two moves on two nights", Check.told(hung + "feast 5 a 2;feast 7 b 1;feast 7 c 1;").plan(7), 2);
        WindowLoans x = Check.told(both + "pane u 1;feast 0 a 2;feast 1 b 1;");
        x.move(1, 0);
        c.due("moves tonight count for the first ones alone", x.plan(3), 1);
    }

    @Sentence(promise = 14, says = "FEASTS told (bits) that are of the NIGHT that is next or later are LIT by ORDERS, one for each NIGHT with such FEASTS")
    static void oneOrderForEachNight(Check c) {
        WindowLoans x = Check.told("house a;house b;hole p a 1;hole q b 1;pane u 1;feast 3 a 1;feast 3 b 1;feast 4 b 1;carriers 9;");
        c.due("two feasts of one night, one pane", x.plan(3), -2);
        c.due("two nights", x.plan(5), 2);
        c.due("the earlier one told later", Check.told("house a;house b;hole p a 1;hole q b 1;pane u 1 in p;feast 4 b 1;"
            + "feast 3 a 1;").plan(3), 1);
    }

    // ---- promise 15

    @Sentence(promise = 15, says = "The HOLE of a pane in it for a FEAST (of these; -2: STORE, BROKEN)")
    static void holesInAPlan(Check c) {
        WindowLoans x = Check.told(TERRACE + "pane u 1 in q;pane v 1 in r;pane w 2;pane z 2 in s;feast 0 a 2;feast 1 b 1;"
            + "carriers 9;");
        x.bird(3);
        c.due("u", x.hangs(3, 0, 0), 1);
        c.due("v on the first night", x.hangs(3, 0, 1), 0);
        c.due("w goes to b at once, ahead of store", x.hangs(3, 0, 2), 3);
        c.due("a broken one", x.hangs(3, 0, 3), -2);
        c.due("v on the second night", x.hangs(3, 1, 1), 0);
        c.due("w on the second night", x.hangs(3, 1, 2), 3);
        c.due("w in store, for one feast alone", x.hangs(1, 0, 2), -2);
        c.due("for no moves: as it hangs", x.hangs(2, 1, 1), 2);
    }

    @Sentence(promise = 15, says = "-3: there is none")
    static void hangsInNoPlan(Check c) {
        WindowLoans x = Check.told(TERRACE + "pane u 1;feast 0 a 2;feast 0 a 1;");
        c.due("no plan", x.hangs(1, 0, 0), -3);
        c.due("not for both", x.hangs(3, 1, 0), -3);
        c.due("a plan", x.hangs(2, 1, 0), 0);
        c.due("no plan, no such pane", x.hangs(1, 0, 1), -1);
        c.due("no plan, not of these", x.hangs(1, 1, 0), -1);
    }

    @Sentence(promise = 15, says = "NONE likewise")
    static void hangsOfNoSuchOnes(Check c) {
        WindowLoans x = twoFeasts();
        for (int feasts : new int[] {LOWEST, -1, 4, 5, 1 << 5, HIGHEST}) {
            c.due("feasts " + feasts, x.hangs(feasts, 0, 0), -1);
        }
        for (int feast : new int[] {LOWEST, -32, -1, 2, 3, 5, 31, 32, 33, HIGHEST}) {
            c.due("feast " + feast, x.hangs(3, feast, 0), -1);
        }
        for (int pane : new int[] {LOWEST, -1, 1, 2, 3, 4, HIGHEST}) {
            c.due("pane " + pane, x.hangs(3, 0, pane), -1);
        }
        c.due("not of these", x.hangs(2, 0, 0), -1);
        c.due("of none", x.hangs(0, 0, 0), -1);
        c.due("of these", x.hangs(2, 1, 0), 2);
        x.nights(1);
        c.due("one that is over", x.hangs(3, 1, 0), -1);
        c.due("over", x.hangs(1, 0, 0), -1);
        c.due("of those ahead", x.hangs(2, 1, 0), 2);
    }

    @Sentence(promise = 15, says = "of several that with the first ORDER for the first NIGHT (by PANES, HOLES by numbers, then STORE), then for the second")
    static void firstOrders(Check c) {
        WindowLoans x = Check.told(TERRACE + "pane u 1;pane v 1;feast 1 a 1;");
        c.due("the first pane, the first hole", x.hangs(1, 0, 0), 0);
        c.due("the second in store", x.hangs(1, 0, 1), -2);
        x = Check.told(TERRACE + "pane u 1 in r;pane v 1;feast 1 a 1;feast 1 b 1;");
        c.due("the first one stays, or b had none", x.hangs(3, 0, 0), 2);
        c.due("the second goes to the first hole", x.hangs(3, 0, 1), 0);
        // either pane may light b on the second night: the first night's order comes first by moving early
        x = Check.told("house a;house b;hole p a 1;hole q b 1;hole r b 2;pane u 1;pane v 2;feast 0 a 0;feast 1 b 1;");
        c.due("one move in all", x.plan(3), 1);
        c.due("u goes on the first night, for a hole comes ahead of store", x.hangs(3, 0, 0), 1);
        c.due("v stays", x.hangs(3, 0, 1), -2);
        c.due("u on the second night", x.hangs(3, 1, 0), 1);
        // no carrier is left for the first night: the second night's order is the first one
        x = Check.told("house a;house b;hole p b 1;hole q b 1;hole r a 1;pane u 1;pane v 1;feast 0 b 0;feast 1 b 1;carriers 1;");
        x.move(0, 2);
        c.due("u stays on the first night", x.hangs(3, 0, 0), 2);
        c.due("v stays on the first night", x.hangs(3, 0, 1), -2);
        c.due("u goes to the first hole", x.hangs(3, 1, 0), 0);
        c.due("v stays on the second night", x.hangs(3, 1, 1), -2);
    }

    // ---- promise 16

    @Sentence(promise = 16, says = "CARRIERS: the fewest carriers (0 .. 9) with which there is a PLAN")
    static void fewestCarriers(Check c) {
        String text = "house a;hole p a 1;hole q a 1;hole r a 1;hole s a 1;pane u 1;pane v 1;pane w 1;pane z 1;carriers 0;";
        int[][] want = {{0, 1, 2, 3, 4}, {0, 1, 1, 2, 2}, {0, 1, 1, 1, 2}, {0, 1, 1, 1, 1}};
        for (int night = 0; night < 4; night++) {
            for (int wants = 0; wants <= 4; wants++) {
                WindowLoans x = Check.told(text + "feast " + night + " a " + wants + ";");
                c.due(wants + " panes, night " + night, x.carriers(1), want[night][wants]);
            }
        }
        WindowLoans x = Check.told("house a;hole p a 1;hole q a 1;pane u 1;pane v 1;feast 0 a 2;carriers 9;");
        for (int k = 0; k < 7; k++) {
            x.move(0, k % 2 == 0 ? 0 : -1);
        }
        c.due("seven moves tonight, one more needed", x.carriers(1), 8);
        x.move(1, 1);
        x.move(1, -1);
        c.due("nine moves tonight, one more needed", x.carriers(1), -2);
        x.undo();
        c.due("eight moves tonight, none needed", x.carriers(1), 0);
    }

    @Sentence(promise = 16, says = "CARRIERS; -2: not with 9")
    static void notWithNine(Check c) {
        WindowLoans x = Check.told("house a;hole p a 1;hole q a 1;pane u 1;pane v 1;feast 0 a 2;feast 0 a 3;carriers 9;");
        c.due("more wanted than there are", x.carriers(2), -2);
        for (int k = 0; k < 8; k++) {
            x.move(0, k % 2 == 0 ? 0 : -1);
        }
        c.due("eight moves tonight, two more needed", x.carriers(1), -2);
        x.undo();
        x.undo();
        x.move(0, 0);
        c.due("seven, one more needed", x.carriers(1), 8);
        x.move(0, -1);
        x.move(0, 1);
        c.due("nine, one more needed", x.carriers(1), -2);
        x.undo();
        x.undo();
        x.move(1, 1);
        c.due("none needed", x.carriers(1), 0);
    }

    @Sentence(promise = 16, says = "NONE: no such ones, one that is over")
    static void carriersOfNoSuchOnes(Check c) {
        WindowLoans x = twoFeasts();
        for (int feasts : new int[] {LOWEST, -1, 4, 5, 7, 1 << 5, 1 << 30, HIGHEST}) {
            c.due("carriers(" + feasts + ")", x.carriers(feasts), -1);
        }
        c.due("of none", x.carriers(0), 0);
        c.due("both", x.carriers(3), 1);
        x.nights(1);
        c.due("one is over", x.carriers(3), -1);
        c.due("over", x.carriers(1), -1);
        c.due("the other one", x.carriers(2), 1);
    }
}
