/** Boundary cases of promises 22 to 29: complaints, strikes, what is known, tales, chances. */
final class TaleEdges {
    private static final String TERRACE = "house a;house b;hole p a 1 sees b;hole q b 1;hole r b 1 sees a;"
        + "pane u 1 in p;pane v 1;";
    /** All orders of the two panes of it. */
    private static final int ORDERS = 13;
    private static final int LOWEST = Integer.MIN_VALUE;
    private static final int HIGHEST = Integer.MAX_VALUE;

    private TaleEdges() {
    }

    /** A terrace with so many complaints that are so by every order. */
    private static WindowLoans complained(int many) {
        WindowLoans x = Check.told(TERRACE);
        for (int k = 0; k < many; k++) {
            x.sight(0, 0, false);
        }
        return x;
    }

    // ---- promises 22 to 24

    @Sentence(promise = 22, says = "A COMPLAINT that a HOUSE had so much LIGHT (0 .. 6): its number")
    static void lightsComplainedOf(Check c) {
        WindowLoans x = Check.told(TERRACE);
        for (int many = 0; many <= 6; many++) {
            c.due("light(1, " + many + ")", x.light(1, many), many);
        }
        c.due("how many", x.count(6), 7);
        int[] tales = {3, 8, 2, 0, 0, 0, 0};
        for (int many = 0; many <= 6; many++) {
            x = Check.told(TERRACE);
            x.light(1, many);
            c.due("just " + many + " in b", x.tales(), tales[many]);
        }
    }

    @Sentence(promise = 22, says = "NONE: no such ones, or there are 24")
    static void noSuchLights(Check c) {
        WindowLoans x = Check.told(TERRACE);
        for (int house : new int[] {LOWEST, -1, 2, 3, 4, 5, HIGHEST}) {
            c.due("house " + house, x.light(house, 0), -1);
        }
        for (int many : new int[] {LOWEST, -1, 7, HIGHEST}) {
            c.due("light " + many, x.light(0, many), -1);
        }
        c.due("no complaints by these", x.count(6), 0);
        x = complained(23);
        c.due("the last one", x.light(0, 0), 23);
        c.due("there are 24", x.light(0, 0), -1);
        c.due("there are no more", x.count(6), 24);
    }

    @Sentence(promise = 23, says = "A COMPLAINT that a HOUSE saw the garden of a HOUSE, or not: its number")
    static void sightsComplainedOf(Check c) {
        WindowLoans x = Check.told(TERRACE);
        c.due("seen", x.sight(0, 1, true), 0);
        c.due("in p one of them hangs", x.tales(), 6);
        x = Check.told(TERRACE);
        c.due("not seen", x.sight(0, 1, false), 0);
        c.due("in p none hangs", x.tales(), ORDERS - 6);
        x = Check.told(TERRACE);
        c.due("its own garden", x.sight(1, 1, false), 0);
        c.due("no order shows it", x.tales(), ORDERS);
        c.due("nor this", x.sight(1, 1, true), 1);
        c.due("no tales", x.tales(), 0);
    }

    @Sentence(promise = 23, says = "NONE: no such ones, or there are 24")
    static void noSuchSights(Check c) {
        WindowLoans x = Check.told(TERRACE);
        for (int other : new int[] {LOWEST, -1, 2, 3, 4, 5, HIGHEST}) {
            c.due("house " + other, x.sight(other, 0, true), -1);
            c.due("garden " + other, x.sight(0, other, false), -1);
        }
        c.due("no complaints by these", x.count(6), 0);
        x = complained(23);
        c.due("the last one", x.sight(0, 1, true), 23);
        c.due("there are 24", x.sight(0, 1, false), -1);
        c.due("there are no more", x.count(6), 24);
        c.due("the last one counts", x.tales(), 6);
    }

    @Sentence(promise = 24, says = "A STRIKE: its number")
    static void strikesAreComplaints(Check c) {
        WindowLoans x = Check.told(TERRACE);
        x.light(0, 6);
        c.due("a strike", x.strike(0), 1);
        c.due("a strike of it", x.strike(1), 2);
        c.due("another one of the first", x.strike(0), 3);
        c.due("a complaint", x.light(0, 0), 4);
        c.due("how many", x.count(6), 5);
    }

    @Sentence(promise = 24, says = "NONE: no such COMPLAINT, or there are 24")
    static void noSuchComplaint(Check c) {
        WindowLoans x = Check.told(TERRACE);
        c.due("of none", x.strike(0), -1);
        x.light(0, 0);
        for (int complaint : new int[] {LOWEST, -1, 1, 2, 24, HIGHEST}) {
            c.due("strike(" + complaint + ")", x.strike(complaint), -1);
        }
        c.due("no complaints by these", x.count(6), 1);
        x = complained(23);
        c.due("the last one", x.strike(22), 23);
        c.due("there are 24", x.strike(0), -1);
        c.due("of the last one", x.strike(23), -1);
        c.due("there are no more", x.count(6), 24);
    }

    @Sentence(promise = 24, says = "COMPLAINTS, at most 24, numbered from 0 on")
    static void numberedFromNoughtOn(Check c) {
        WindowLoans x = Check.told(TERRACE);
        for (int k = 0; k < 24; k++) {
            int number = k % 3 == 0 ? x.light(0, 1) : k % 3 == 1 ? x.sight(0, 1, true) : x.strike(k - 1);
            c.due("complaint " + k, number, k);
        }
        c.due("a 25th light", x.light(0, 1), -1);
        c.due("a 25th sight", x.sight(0, 1, true), -1);
        c.due("a 25th strike", x.strike(0), -1);
        x.nights(1);
        c.due("they stay when a night goes by", x.count(6), 24);
    }

    @Sentence(promise = 24, says = "(a STRIKE may be STRUCK: then it doesn't count; asked from the last one on)")
    static void struckStrikes(Check c) {
        WindowLoans x = Check.told(TERRACE);
        x.light(0, 6);
        for (int k = 0; k < 23; k++) {
            c.due("after " + k + " strikes, each of the one ahead", x.tales(), k % 2 == 0 ? 0 : ORDERS);
            x.strike(k);
        }
        c.due("after 23 strikes", x.tales(), ORDERS);
        x = Check.told(TERRACE);
        x.light(0, 6);
        x.strike(0);
        x.strike(0);
        c.due("struck twice", x.tales(), ORDERS);
        x.strike(1);
        c.due("one of two strikes is struck", x.tales(), ORDERS);
        x.strike(2);
        c.due("both are struck", x.tales(), 0);
        x.strike(4);
        c.due("the latter strike counts again", x.tales(), ORDERS);
    }

    // ---- promise 25

    @Sentence(promise = 25, says = "KNOWN by n from now on (-1: by all, also those to come): true")
    static void knownFromNowOn(Check c) {
        WindowLoans x = Check.told(TERRACE);
        c.due("by none of none", x.known(0), true);
        x.light(0, 6);
        c.due("one to come isn't known", x.tales(), ORDERS);
        c.due("by all", x.known(-1), true);
        c.due("it is known", x.tales(), 0);
        x.strike(0);
        c.due("one to come is known too", x.tales(), ORDERS);
        c.due("by as many as there are", x.known(2), true);
        x.light(0, 6);
        c.due("one to come isn't", x.tales(), ORDERS);
        c.due("by three", x.known(3), true);
        c.due("it is known then", x.tales(), 0);
    }

    @Sentence(promise = 25, says = "false: no such n")
    static void noSuchNumberKnown(Check c) {
        WindowLoans x = complained(2);
        x.known(1);
        for (int n : new int[] {LOWEST, -2, 3, 24, 25, HIGHEST}) {
            c.due("known(" + n + ")", x.known(n), false);
        }
        c.due("it stays", x.count(7), 1);
        c.due("as many as there are", x.known(2), true);
        c.due("24 of 24", complained(24).known(24), true);
        c.due("25 of 24", complained(24).known(25), false);
    }

    @Sentence(promise = 25, says = "KNOWN by n (all at first): the first n that aren't STRUCK by one of these")
    static void struckByOneOfThese(Check c) {
        WindowLoans x = Check.told(TERRACE);
        x.light(0, 6);
        c.due("all at first", x.tales(), 0);
        x.strike(0);
        x.strike(1);
        int[] tales = {ORDERS, 0, ORDERS, 0};
        for (int n = 0; n <= 3; n++) {
            x.known(n);
            c.due("known(" + n + ")", x.tales(), tales[n]);
            c.due("by how many", x.count(7), n);
        }
    }

    // ---- promises 26 to 28

    @Sentence(promise = 26, says = "How many TALES there are")
    static void howManyTales(Check c) {
        c.due("nothing told: one order", new WindowLoans().tales(), 1);
        c.due("no panes", Check.told("house a;hole p a 1;").tales(), 1);
        c.due("a pane that fits nowhere", Check.told("house a;hole p a 1;pane u 2;").tales(), 1);
        c.due("all orders without complaints", Check.told(TERRACE).tales(), ORDERS);
        WindowLoans x = Check.told("house a;hole a a 1;hole b a 1;hole c a 1;hole d a 1;hole e a 1;hole f a 1;"
            + "pane u 1;pane v 1;pane w 1;pane z 1 in f;");
        c.due("four panes, six holes", x.tales(), 1045);
        c.due("the last one", x.tale(1044, 3), -2);
        c.due("no more", x.tale(1045, 3), -3);
        c.due("the one ahead of it", x.tale(1043, 3), 5);
        x.bird(5);
        c.due("three panes, six holes", x.tales(), 229);
        x.undo();
        c.due("four again", x.tales(), 1045);
    }

    @Sentence(promise = 26, says = "no HOLE twice (BROKEN ones stay so)")
    static void noHoleTwice(Check c) {
        WindowLoans x = Check.told("house a;hole p a 1;pane u 1 in p;pane v 1;pane w 1;");
        c.due("one of three, or none", x.tales(), 4);
        x.light(0, 2);
        c.due("two in one hole", x.tales(), 0);
        x.strike(0);
        x.bird(0);
        c.due("one of two, or none", x.tales(), 3);
        x.light(0, 1);
        c.due("not by the broken one", x.tales(), 2);
        c.due("by the second", x.tale(0, 1), 0);
        c.due("by the third", x.tale(1, 2), 0);
    }

    @Sentence(promise = 27, says = "as they come (by PANES, HOLES, then STORE; the last pane goes on first)")
    static void talesAsTheyCome(Check c) {
        WindowLoans x = Check.told(TERRACE);
        int[] u = {0, 0, 0, 1, 1, 1, 2, 2, 2, -2, -2, -2, -2};
        int[] v = {1, 2, -2, 0, 2, -2, 0, 1, -2, 0, 1, 2, -2};
        for (int k = 0; k < u.length; k++) {
            c.due("tale(" + k + ", 0)", x.tale(k, 0), u[k]);
            c.due("tale(" + k + ", 1)", x.tale(k, 1), v[k]);
        }
    }

    @Sentence(promise = 27, says = "The HOLE of a pane in the k-th one (-2: STORE, BROKEN)")
    static void taleOfStoreOrBroken(Check c) {
        WindowLoans x = Check.told(TERRACE);
        c.due("in store", x.tale(2, 1), -2);
        x.bird(0);
        for (int k = 0; k < 4; k++) {
            c.due("broken in tale " + k, x.tale(k, 0), -2);
            c.due("the other one", x.tale(k, 1), k < 3 ? k : -2);
        }
    }

    @Sentence(promise = 27, says = "-3: there are no so many")
    static void noSoManyTales(Check c) {
        WindowLoans x = Check.told(TERRACE);
        c.due("the last one", x.tale(ORDERS - 1, 0), -2);
        c.due("one more", x.tale(ORDERS, 0), -3);
        c.due("far more", x.tale(HIGHEST, 0), -3);
        x.light(0, 6);
        c.due("there are none", x.tale(0, 0), -3);
    }

    @Sentence(promise = 27, says = "NONE: no such ones")
    static void noSuchTale(Check c) {
        WindowLoans x = Check.told(TERRACE);
        for (int pane : new int[] {LOWEST, -1, 2, 3, 4, HIGHEST}) {
            c.due("pane " + pane, x.tale(0, pane), -1);
            c.due("pane " + pane + ", no so many", x.tale(ORDERS, pane), -1);
        }
        c.due("k -1", x.tale(-1, 0), -1);
        c.due("the lowest k", x.tale(LOWEST, 0), -1);
    }

    @Sentence(promise = 28, says = "SURE: its HOLE (-2: STORE, BROKEN)")
    static void sureOfAPane(Check c) {
        WindowLoans x = Check.told("house a;house b;hole p a 1;hole q b 2;hole r b 2;pane u 1;pane v 2;");
        x.light(0, 1);
        c.due("its hole", x.sure(0), 0);
        x.light(1, 0);
        c.due("in store", x.sure(1), -2);
        x = Check.told(TERRACE);
        x.bird(0);
        c.due("broken", x.sure(0), -2);
    }

    @Sentence(promise = 28, says = "-3: not the same in all, there are none")
    static void notSure(Check c) {
        WindowLoans x = Check.told(TERRACE);
        c.due("not the same", x.sure(0), -3);
        c.due("the last one neither", x.sure(1), -3);
        x.light(0, 6);
        c.due("there are none", x.sure(0), -3);
        x.bird(0);
        c.due("there are none, broken", x.sure(0), -3);
        // in a hole in all tales but the last one, in which it is in store
        x = Check.told("house a;hole p a 1;pane u 1;");
        c.due("a hole or the store", x.sure(0), -3);
    }

    @Sentence(promise = 28, says = "NONE: no such pane")
    static void sureOfNoSuchPane(Check c) {
        WindowLoans x = Check.told(TERRACE);
        for (int pane : new int[] {LOWEST, -1, 2, 3, 4, HIGHEST}) {
            c.due("sure(" + pane + ")", x.sure(pane), -1);
        }
        x.light(0, 6);
        c.due("there are none, no such pane", x.sure(2), -1);
    }

    // ---- promise 29

    /** In how many of ten draws of n numbers none is below the risk. */
    private static int wholeOnes(long seed, int n, int risk) {
        long last = seed;
        int whole = 0;
        for (int draw = 0; draw < 10; draw++) {
            boolean broken = false;
            for (int k = 0; k < n; k++) {
                last = Check.drawnBehind(last);
                broken |= last / 65536 % 100 < risk;
            }
            whole += broken ? 0 : 1;
        }
        return whole;
    }

    @Sentence(promise = 29, says = "CHANCE (seed 0 .. 2147483647, n 1 .. 20)")
    static void chancesBySeedsAndNumbers(Check c) {
        for (int risk : new int[] {1, 10, 50, 99}) {
            WindowLoans x = Check.told("house a;hole p a 1;pane u 1;law snap " + risk + ";");
            for (int seed : new int[] {0, 1, 99999, 100000, 1 << 30, HIGHEST - 1, HIGHEST}) {
                for (int n : new int[] {1, 2, 19, 20}) {
                    c.due("chance(" + seed + ", 0, 0, " + n + "), " + risk, x.chance(seed, 0, 0, n),
                        wholeOnes(seed, n, risk));
                }
            }
        }
        c.due("without a law", Check.told("house a;hole p a 1;pane u 1;").chance(7, 0, 0, 20), 10);
        c.due("sure to break", Check.told("house a;hole p a 1;pane u 1;law snap 100;").chance(7, 0, 0, 1), 0);
    }

    @Sentence(promise = 29, says = "(all n are drawn)")
    static void allAreDrawn(Check c) {
        // by the seed 0: 0, 68, 88, 17, 98, 27, 45, 41, 22, 10; if a draw ended with the first that breaks,
        // the second one of 68, 88 would be drawn as a whole pair
        WindowLoans x = Check.told("house a;hole p a 1;pane u 1;law snap 50;");
        c.due("pairs", x.chance(0, 0, 0, 2), wholeOnes(0, 2, 50));
        c.due("threes", x.chance(0, 0, 0, 3), wholeOnes(0, 3, 50));
        int broken = 0;
        for (int seed = 0; seed < 200; seed++) {
            c.due("pairs by " + seed, x.chance(seed, 0, 0, 2), wholeOnes(seed, 2, 50));
            broken += wholeOnes(seed, 2, 50) < 10 ? 1 : 0;
        }
        c.due("some broke it", broken > 100, true);
    }

    @Sentence(promise = 29, says = "CHANCE of a pane and a HOLE that it FITS (one may hang there)")
    static void oneMayHangThere(Check c) {
        WindowLoans x = Check.told("house a;house b;hole p a 1;hole q b 1;pane u 1 in p;pane v 1 in q;law snap far * 51 + panes;");
        c.due("where the other one hangs", x.chance(5, 0, 1, 1), wholeOnes(5, 1, 52));
        c.due("where it hangs itself", x.chance(5, 0, 0, 1), wholeOnes(5, 1, 1));
    }

    @Sentence(promise = 29, says = "each of n numbers as of MOVES of it there as things are now")
    static void asThingsAreNow(Check c) {
        WindowLoans x = Check.told("house a;house b;hole p a 1;hole q b 1;pane u 1 in p;carriers 0;law snap far * 30 + night * 20;");
        c.due("far", x.chance(1, 0, 1, 2), wholeOnes(1, 2, 30));
        x.nights(2);
        c.due("on another night", x.chance(1, 0, 1, 2), wholeOnes(1, 2, 70));
        c.due("no carriers needed, no move made", x.look(0, 0), 0);
        c.due("nothing to undo", x.count(8), 0);
    }

    @Sentence(promise = 29, says = "NONE: no such ones, BROKEN, it doesn't FIT")
    static void noSuchChance(Check c) {
        WindowLoans x = Check.told(TERRACE + "house c;hole s c 2;");
        c.due("ten", x.chance(0, 1, 2, 20), 10);
        for (int seed : new int[] {LOWEST, -2, -1}) {
            c.due("seed " + seed, x.chance(seed, 0, 0, 1), -1);
        }
        for (int pane : new int[] {LOWEST, -1, 2, 3, 4, HIGHEST}) {
            c.due("pane " + pane, x.chance(0, pane, 0, 1), -1);
        }
        for (int hole : new int[] {LOWEST, -2, -1, 4, 5, 6, HIGHEST}) {
            c.due("hole " + hole, x.chance(0, 0, hole, 1), -1);
        }
        for (int n : new int[] {LOWEST, -1, 0, 21, HIGHEST}) {
            c.due("n " + n, x.chance(0, 0, 0, n), -1);
        }
        c.due("it doesn't fit", x.chance(0, 0, 3, 1), -1);
        x.bird(0);
        c.due("broken", x.chance(0, 0, 0, 1), -1);
        c.due("the other one", x.chance(0, 1, 0, 1), 10);
    }
}
