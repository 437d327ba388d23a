/** Boundary cases of promise 9, law, and of the values that laws have in 8, 10, 11 and 20. */
final class LawEdges {
    private static final long ERROR = Long.MIN_VALUE;
    /** Ten to the twelve. */
    private static final String LIMIT = "8000 * 5000 * 5000 * 5";

    private LawEdges() {
    }

    private static void due(Check c, String formula, long want) {
        c.due(formula, Check.told("house a;law due " + formula + ";").law(0, 0, 0), want);
    }

    @Sentence(promise = 9, says = "Long.MIN_VALUE: an ERROR, no such law")
    static void noSuchLaw(Check c) {
        String terrace = "house a;hole p a 4;pane u 4 in p;";
        WindowLoans x = Check.told(terrace);
        c.due("no due", x.law(0, 0, 0), ERROR);
        c.due("no snap", x.law(1, 0, 0), ERROR);
        c.due("no harm", x.law(2, 0, 0), ERROR);
        Check.tell(x, terrace + "law snap 2;");
        c.due("no due beside snap", x.law(0, 0, 0), ERROR);
        c.due("snap", x.law(1, 0, 0), 2);
        c.due("no harm beside snap", x.law(2, 0, 0), ERROR);
        Check.tell(x, terrace + "law due 1;law snap 2;law harm 3;");
        c.due("due", x.law(0, 0, 0), 1);
        c.due("harm", x.law(2, 0, 0), 3);
        c.due("what 3", x.law(3, 0, 0), ERROR);
        c.due("what -1", x.law(-1, 0, 0), ERROR);
        Check.tell(x, terrace);
        c.due("a law of the text ahead", x.law(2, 0, 0), ERROR);
    }

    @Sentence(promise = 9, says = "no such ones (BROKEN)")
    static void noSuchOnes(Check c) {
        WindowLoans x = Check.told("house a;house b;hole p a 4;hole q a 4;pane u 4 in p;pane v 4;"
            + "law due 1;law snap 2;law harm 3;");
        c.due("the last house", x.law(0, 1, 0), 1);
        c.due("house 2", x.law(0, 2, 0), ERROR);
        c.due("house -1", x.law(0, -1, 0), ERROR);
        c.due("the last pane, the last hole", x.law(1, 1, 1), 2);
        c.due("pane 2", x.law(1, 2, 0), ERROR);
        c.due("pane -1", x.law(1, -1, 0), ERROR);
        c.due("snap: hole 2", x.law(1, 0, 2), ERROR);
        c.due("snap: to store", x.law(1, 0, -1), ERROR);
        c.due("harm: hole 2", x.law(2, 2, 0), ERROR);
        c.due("harm: hole -1", x.law(2, -1, 0), ERROR);
        x.bird(0);
        c.due("a broken pane", x.law(1, 0, 1), ERROR);
        c.due("the other one", x.law(1, 1, 1), 2);
        x.undo();
        c.due("whole again", x.law(1, 0, 1), 2);
    }

    @Sentence(promise = 9, says = "2 harm of a HOLE in which one hangs")
    static void harmOfAHoleInWhichOneHangs(Check c) {
        WindowLoans x = Check.told("house a;hole p a 4;hole q a 4;pane u 4 in p;law harm 3;");
        c.due("one hangs", x.law(2, 0, 0), 3);
        c.due("none hangs", x.law(2, 1, 0), ERROR);
        x.bird(0);
        c.due("what hung is broken", x.law(2, 0, 0), ERROR);
    }

    @Sentence(promise = 9, says = "to: the HOLE (snap; else not looked at)")
    static void toIsNotLookedAt(Check c) {
        WindowLoans x = Check.told("house a;hole p a 4;pane u 4 in p;law due 1;law snap 2;law harm 3;");
        for (int to : new int[] {Integer.MIN_VALUE, -1, 1, 7, Integer.MAX_VALUE}) {
            c.due("due, to " + to, x.law(0, 0, to), 1);
            c.due("harm, to " + to, x.law(2, 0, to), 3);
            c.due("snap, to " + to, x.law(1, 0, to), ERROR);
        }
    }

    @Sentence(promise = 9, says = "as it is now, on the NIGHT that is next")
    static void onTheNightThatIsNext(Check c) {
        WindowLoans x = Check.told("house a;hole p a 4;pane u 4 in p;law due night;law snap night;law harm night;");
        for (int night : new int[] {0, 1, 60, 61}) {
            x.nights(night - x.count(5));
            c.due("due on " + night, x.law(0, 0, 0), night);
            c.due("snap on " + night, x.law(1, 0, 0), night);
            c.due("harm on " + night, x.law(2, 0, 0), night);
        }
    }

    @Sentence(promise = 9, says = "A law's E")
    static void beyondItsBoundsAsItIs(Check c) {
        String terrace = "house a;hole p a 4;pane u 4 in p;";
        WindowLoans x = Check.told(terrace + "law due 9999 + 1;law snap 100 + 1;law harm 9999 + 1;");
        c.due("due", x.law(0, 0, 0), 10000);
        c.due("snap", x.law(1, 0, 0), 101);
        c.due("harm", x.law(2, 0, 0), 10000);
        x = Check.told(terrace + "law due 0 - 1;law snap 0 - 1;law harm 0 - 1;");
        c.due("due below 0", x.law(0, 0, 0), -1);
        c.due("snap below 0", x.law(1, 0, 0), -1);
        c.due("harm below 0", x.law(2, 0, 0), -1);
    }

    // ---- names

    @Sentence(promise = 9, says = "panes: LIGHT of the HOUSE")
    static void panesOfTheHouse(Check c) {
        WindowLoans x = Check.told("house a;house b;hole p a 1;hole q a 1;hole r b 1;pane u 1 in p;pane v 1 in q;"
            + "pane w 1;law due panes;law harm panes;law snap panes;");
        c.due("due of two", x.law(0, 0, 0), 2);
        c.due("due of none", x.law(0, 1, 0), 0);
        c.due("harm of two", x.law(2, 1, 0), 2);
        c.due("snap to two", x.law(1, 2, 0), 2);
        c.due("snap to none", x.law(1, 2, 2), 0);
    }

    @Sentence(promise = 9, says = "size: all SIZES of panes there (snap, harm: of the pane)")
    static void sizesOfPanes(Check c) {
        WindowLoans x = Check.told("house a;house b;frame 2 9;hole p a 9;hole q a 5;hole r b 9;pane u 2 in p;"
            + "pane v 5 in q;law due size;law harm size;law snap size;");
        c.due("due: of panes, not of holes", x.law(0, 0, 0), 7);
        c.due("due: without panes", x.law(0, 1, 0), 0);
        c.due("harm: of the pane", x.law(2, 0, 0), 2);
        c.due("snap: of the pane", x.law(1, 0, 2), 2);
        x.bird(1);
        c.due("due: a broken one is not there", x.law(0, 0, 0), 2);
    }

    @Sentence(promise = 9, says = "place: PLACE of the HOUSE")
    static void placeOfTheHouse(Check c) {
        WindowLoans x = Check.told("house a;house b;house c;house d;house e;hole p a 1;hole q e 1;pane u 1 in q;"
            + "law due place;law snap place;law harm place;");
        c.due("due of the first", x.law(0, 0, 0), 0);
        c.due("due of the last", x.law(0, 4, 0), 4);
        c.due("snap to the first", x.law(1, 0, 0), 0);
        c.due("harm in the last", x.law(2, 1, 0), 4);
    }

    @Sentence(promise = 9, says = "far: steps between the HOUSE where the pane hung and the other one")
    static void stepsBetweenHouses(Check c) {
        WindowLoans x = Check.told("house a;house b;house c;house d;house e;hole p a 1;hole q e 1;hole r e 1;"
            + "pane u 1 in q;pane v 1 in p;law snap far;");
        c.due("down", x.law(1, 0, 0), 4);
        c.due("up", x.law(1, 1, 1), 4);
        c.due("within a house", x.law(1, 0, 2), 0);
        c.due("where it is", x.law(1, 0, 1), 0);
    }

    @Sentence(promise = 9, says = "(0 from STORE; 0 of due, harm)")
    static void notFar(Check c) {
        WindowLoans x = Check.told("house a;house b;hole p b 1;hole q b 1;pane u 1;pane v 1 in q;"
            + "law due far;law snap far;law harm far;");
        c.due("from store", x.law(1, 0, 0), 0);
        c.due("of due", x.law(0, 1, 0), 0);
        c.due("of harm", x.law(2, 1, 0), 0);
    }

    @Sentence(promise = 9, says = "Of snap panes and place are of the HOUSE it goes to, as it is ahead of that")
    static void asItIsAheadOfTheMove(Check c) {
        WindowLoans x = Check.told("house a;house b;hole p a 1;hole q a 1;hole r b 1;pane u 1 in p;pane v 1 in r;"
            + "law snap panes * 10 + place;");
        c.due("within its house it counts itself", x.law(1, 0, 1), 10);
        c.due("where it is", x.law(1, 0, 0), 10);
        c.due("to the other house", x.law(1, 0, 2), 11);
        c.due("from the other house", x.law(1, 1, 1), 10);
    }

    @Sentence(promise = 9, says = "of harm of the HOUSE of the HOLE")
    static void harmInTheHouseOfTheHole(Check c) {
        WindowLoans x = Check.told("house a;house b;hole p a 1;hole q b 1 sees a;hole r b 1;pane u 1 in q;pane v 1 in r;"
            + "law harm panes * 10 + place;");
        c.due("not of the garden's", x.law(2, 1, 0), 21);
    }

    // ---- values

    @Sentence(promise = 9, says = "VALUES are longs")
    static void valuesAreLongs(Check c) {
        due(c, "9999 * 9999 * 9999", 999700029999L);
        due(c, "2 * 9999 * 9999 * 5000", 999800010000L);
        due(c, "0 - 9999 * 9999 * 9999", -999700029999L);
    }

    @Sentence(promise = 9, says = "comparisons, and, or, not are 1 or 0")
    static void oneOrNought(Check c) {
        String[] signs = {"<", "<=", "=", "<>", ">=", ">"};
        int[][] want = {{1, 0, 0}, {1, 1, 0}, {0, 1, 0}, {1, 0, 1}, {0, 1, 1}, {0, 0, 1}};
        for (int k = 0; k < signs.length; k++) {
            due(c, "6 " + signs[k] + " 7", want[k][0]);
            due(c, "7 " + signs[k] + " 7", want[k][1]);
            due(c, "8 " + signs[k] + " 7", want[k][2]);
            due(c, "(0 - 8) " + signs[k] + " (0 - 7)", want[k][0]);
        }
    }

    @Sentence(promise = 9, says = "(what isn't 0 is as 1, both sides are worked out)")
    static void whatIsNotNoughtIsAsOne(Check c) {
        due(c, "7 and 8", 1);
        due(c, "2 and 4", 1);
        due(c, "0 and 8", 0);
        due(c, "8 and 0", 0);
        due(c, "0 and 0", 0);
        due(c, "7 or 8", 1);
        due(c, "0 or 8", 1);
        due(c, "8 or 0", 1);
        due(c, "0 or 0", 0);
        due(c, "not 7", 0);
        due(c, "not 0", 1);
        due(c, "not (0 - 7)", 0);
        due(c, "(0 - 1) and (0 - 1)", 1);
        due(c, "(0 - 1) or 0", 1);
        due(c, "0 and 1 / 0", ERROR);
        due(c, "1 / 0 and 0", ERROR);
        due(c, "1 or 1 / 0", ERROR);
        due(c, "1 / 0 or 1", ERROR);
        due(c, "1 or " + LIMIT + " + 1", ERROR);
    }

    @Sentence(promise = 9, says = "a 65th KNOT of all E")
    static void asManyKnotsAsThereCanBe(Check c) {
        due(c, "not ".repeat(63) + "0", 1);
        due(c, "not ".repeat(62) + "0", 0);
        due(c, "(not ".repeat(8) + "not ".repeat(55) + "7" + ")".repeat(8), 0);
        due(c, "1" + "+1".repeat(31), 32);
        due(c, "1 + (".repeat(8) + "1 + 1 * 2 - 3" + ")".repeat(8), 8);
    }

    @Sentence(promise = 9, says = "E: A { or A }. A: B { and B }. B: not B | C")
    static void whatBindsMoreTightly(Check c) {
        due(c, "1 or 0 and 0", 1);
        due(c, "(1 or 0) and 0", 0);
        due(c, "0 and 0 or 1", 1);
        due(c, "not 0 and 0", 0);
        due(c, "not (0 and 0)", 1);
        due(c, "not 0 or 1", 1);
        due(c, "not 1 = 2", 1);
        due(c, "(not 1) = 2", 0);
        due(c, "not 0 + 1", 0);
    }

    @Sentence(promise = 9, says = "S: T { ( + | - ) T }. T: P { ( * | / ) P }")
    static void sumsAndProducts(Check c) {
        due(c, "1 + 2 * 3", 7);
        due(c, "2 * 3 + 1", 7);
        due(c, "(1 + 2) * 3", 9);
        due(c, "10 - 3 - 2", 5);
        due(c, "10 - 3 + 2", 9);
        due(c, "10 - (3 - 2)", 9);
        due(c, "100 / 7 / 2", 7);
        due(c, "100 / 7 * 2", 28);
        due(c, "100 / (7 / 2)", 33);
        due(c, "3 * 7 / 2", 10);
        due(c, "7 / 2 * 3", 9);
        due(c, "1 < 2 and 5 - 3 > 1", 1);
    }

    @Sentence(promise = 9, says = "C: S [ ( < | <= | = | <> | >= | > ) S ]")
    static void comparisonsOfSums(Check c) {
        String[] signs = {"<", "<=", "=", "<>", ">=", ">"};
        int[] alike = {0, 1, 1, 0, 1, 0};
        for (int k = 0; k < signs.length; k++) {
            due(c, "2 + 3 " + signs[k] + " 2 + 3", alike[k]);
            due(c, "9 - 3 " + signs[k] + " 2 * 3", alike[k]);
            due(c, "not 6 / 2 " + signs[k] + " 9 / 3", 1 - alike[k]);
            due(c, "0 or 5 " + signs[k] + " 5 and 1", alike[k]);
        }
    }

    @Sentence(promise = 9, says = "/ is cut towards 0")
    static void cutTowardsNought(Check c) {
        due(c, "7 / 2", 3);
        due(c, "(0 - 7) / 2", -3);
        due(c, "7 / (0 - 2)", -3);
        due(c, "(0 - 7) / (0 - 2)", 3);
        due(c, "1 / 2", 0);
        due(c, "(0 - 1) / 2", 0);
        due(c, "0 / 9999", 0);
    }

    @Sentence(promise = 9, says = "ERROR: / by 0")
    static void byNought(Check c) {
        due(c, "1 / 0", ERROR);
        due(c, "0 / 0", ERROR);
        due(c, "1 / place", ERROR);
        due(c, "1 / (1 / 2)", ERROR);
        due(c, "0 * (1 / 0)", ERROR);
        due(c, "not (1 / 0)", ERROR);
        due(c, "(1 / 0) = (1 / 0)", ERROR);
        due(c, "1 + 2 * (3 - 4 / 0)", ERROR);
        due(c, LIMIT + " / 1", 1000000000000L);
    }

    @Sentence(promise = 9, says = "a value above 10 to the 12 or below 0 by more than that")
    static void beyondTenToTheTwelve(Check c) {
        due(c, LIMIT, 1000000000000L);
        due(c, LIMIT + " + 1", ERROR);
        due(c, "1 + " + LIMIT, ERROR);
        due(c, LIMIT + " - (0 - 1)", ERROR);
        due(c, "0 - " + LIMIT, -1000000000000L);
        due(c, "0 - " + LIMIT + " - 1", ERROR);
        due(c, "0 - 1 - " + LIMIT, ERROR);
        due(c, "(0 - 8000) * 5000 * 5000 * 5", -1000000000000L);
        due(c, "8000 * 5000 * 5000 * (0 - 5)", -1000000000000L);
        due(c, "(0 - 8000) * 5000 * 5000 * (0 - 5)", 1000000000000L);
        due(c, "(1000 * 1000) * (1000 * 1000)", 1000000000000L);
        due(c, "(1000 * 1000 - 1) * (1000 * 1000 + 1)", 999999999999L);
        due(c, "(1000 * 1000) * (1000 * 1000 + 1)", ERROR);
        due(c, "(1000 * 1000 + 1) * (0 - 1000 * 1000)", ERROR);
        due(c, "8000 * 5000 * 5000 * 6", ERROR);
        due(c, "(0 - 8000) * 5000 * 5000 * 6", ERROR);
        due(c, "8000 * 5000 * 5000 * (0 - 6)", ERROR);
        due(c, "(0 - 8000) * 5000 * 5000 * (0 - 6)", ERROR);
        due(c, LIMIT + " + 1 - 1", ERROR);
        due(c, "(" + LIMIT + " + 1) < 0", ERROR);
        due(c, "not (" + LIMIT + " + 1)", ERROR);
        due(c, LIMIT + " * 0", 0);
        due(c, "0 * (" + LIMIT + ")", 0);
        due(c, LIMIT + " * 1", 1000000000000L);
        due(c, LIMIT + " - (" + LIMIT + ")", 0);
        due(c, LIMIT + " + (" + LIMIT + ")", ERROR);
    }

    @Sentence(promise = 9, says = "a value above 10 to the 12 or below 0 by more than that")
    static void productsBeyondALong(Check c) {
        due(c, "(" + LIMIT + ") * (" + LIMIT + ")", ERROR);
        due(c, "(0 - " + LIMIT + ") * (" + LIMIT + ")", ERROR);
        // 2 to the 72, which a long would give back as 0
        due(c, "(4096 * 4096 * 4096) * (4096 * 4096 * 4096)", ERROR);
        // 2 to the 64 and 2 to the 38, which is a small value in 64 bits
        due(c, "(4096 * 4096 * 64) * (4096 * 4096 * 1024 + 256)", ERROR);
    }

    // ---- bounds of what counts

    @Sentence(promise = 8, says = "each HOUSE pays E of due (0 .. 9999; LIGHT without, with an ERROR)")
    static void boundsOfDue(Check c) {
        String[] laws = {"law due 9999;", "law due 9999 + 1;", "law due " + LIMIT + ";", "law due 0;", "law due 0 - 1;",
            "law due 0 - " + LIMIT + ";", "", "law due 1 / 0;", "law due " + LIMIT + " + 1;"};
        int[] want = {9999, 9999, 9999, 0, 0, 0, 2, 2, 2};
        for (int k = 0; k < laws.length; k++) {
            WindowLoans x = Check.told("house a;house b;hole p a 1;hole q a 1;pane u 1 in p;pane v 1 in q;tax 0;" + laws[k]);
            c.due("'" + laws[k] + "' would be paid", x.house(0, 3), want[k]);
            c.due("'" + laws[k] + "' least", x.least(0, 0, 0), want[k] + (want[k] == 2 ? 0 : want[k]));
            x.nights(1);
            c.due("'" + laws[k] + "' is paid", x.house(0, 2), want[k]);
            c.due("'" + laws[k] + "' by a house without panes", x.house(1, 2), want[k] == 2 ? 0 : want[k]);
        }
    }

    @Sentence(promise = 10, says = "if that is below E of snap (0 .. 100; 0 without, with an ERROR), it is BROKEN")
    static void boundsOfSnap(Check c) {
        // by these seeds the first number modulo 100 is 0 and 99
        int low = Check.seedOf(0);
        int high = Check.seedOf(99);
        String[] laws = {"law snap 100;", "law snap 101;", "law snap " + LIMIT + ";", "law snap 99;", "law snap 1;",
            "law snap 0;", "law snap 0 - 1;", "", "law snap 1 / 0;", "law snap " + LIMIT + " + 1;"};
        int[] ofLow = {0, 0, 0, 0, 0, 1, 1, 1, 1, 1};
        int[] ofHigh = {0, 0, 0, 1, 1, 1, 1, 1, 1, 1};
        for (int k = 0; k < laws.length; k++) {
            String terrace = "house a;hole p a 1;pane u 1;" + laws[k] + "seed ";
            c.due("'" + laws[k] + "' with 0", Check.told(terrace + low + ";").move(0, 0), ofLow[k]);
            c.due("'" + laws[k] + "' with 99", Check.told(terrace + high + ";").move(0, 0), ofHigh[k]);
        }
    }

    @Sentence(promise = 20, says = "one that isn't shut costs E of harm each hour (0 .. 9999; SIZE of the pane without, with an ERROR)")
    static void boundsOfHarm(Check c) {
        String[] laws = {"law harm 9999;", "law harm 9999 + 1;", "law harm " + LIMIT + ";", "law harm 0;",
            "law harm 0 - 1;", "law harm 0 - " + LIMIT + ";", "", "law harm 1 / 0;", "law harm " + LIMIT + " + 1;"};
        int[] want = {9999, 9999, 9999, 0, 0, 0, 2, 2, 2};
        for (int k = 0; k < laws.length; k++) {
            // the panes' size is 2, the holes' is 9
            WindowLoans x = Check.told("house a;hole p a 9;hole q a 9;frame 2 9;pane u 2 in p;pane v 2 in q;" + laws[k]);
            c.due("'" + laws[k] + "'", x.shutting(), want[k]);
        }
    }
}
