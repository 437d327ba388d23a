/** Promises 22 to 29: complaints, strikes, what is known, tales, what is sure, chances. */
public final class TaleTest {
    private static final Check CHECK = new Check();
    private static final String TERRACE = "house a;house b;hole p a 1 sees b;hole q b 1;hole r b 1 sees a;"
        + "pane u 1 in p;pane v 1;";

    public static void main(String[] args) {
        complaints();
        tales();
        strikes();
        known();
        sure();
        broken();
        chances();
        CHECK.end();
    }

    private static void complaints() {
        WindowLoans x = Check.told(TERRACE);
        CHECK.due("house 2", x.light(2, 0), -1);
        CHECK.due("house -1", x.light(-1, 0), -1);
        CHECK.due("7 panes", x.light(0, 7), -1);
        CHECK.due("-1 panes", x.light(0, -1), -1);
        CHECK.due("sight: house 2", x.sight(2, 0, true), -1);
        CHECK.due("sight: garden 2", x.sight(0, 2, true), -1);
        CHECK.due("sight: house -1", x.sight(-1, 0, false), -1);
        CHECK.due("sight: garden -1", x.sight(0, -1, false), -1);
        CHECK.due("no complaint to strike", x.strike(0), -1);
        CHECK.due("none", x.count(6), 0);
        CHECK.due("the first", x.light(0, 6), 0);
        CHECK.due("none of itself", x.strike(1), -1);
        CHECK.due("strike -1", x.strike(-1), -1);
        CHECK.due("the second", x.strike(0), 1);
        for (int k = 2; k < 24; k++) {
            CHECK.due("number " + k, x.sight(0, 1, k % 2 == 0), k);
        }
        CHECK.due("24: light", x.light(0, 0), -1);
        CHECK.due("24: sight", x.sight(0, 0, true), -1);
        CHECK.due("24: strike", x.strike(0), -1);
        CHECK.due("24", x.count(6), 24);
    }

    private static void tales() {
        WindowLoans x = Check.told(TERRACE);
        // u in p: v in q, r, store; u in q: v in p, r, store; ..; u in store: v in p, q, r, store
        int[] u = {0, 0, 0, 1, 1, 1, 2, 2, 2, -2, -2, -2, -2};
        int[] v = {1, 2, -2, 0, 2, -2, 0, 1, -2, 0, 1, 2, -2};
        CHECK.due("all orders", x.tales(), u.length);
        for (int k = 0; k < u.length; k++) {
            CHECK.due("tale(" + k + ", 0)", x.tale(k, 0), u[k]);
            CHECK.due("tale(" + k + ", 1)", x.tale(k, 1), v[k]);
        }
        CHECK.due("no so many", x.tale(13, 0), -3);
        CHECK.due("a high k", x.tale(Integer.MAX_VALUE, 0), -3);
        CHECK.due("k -1", x.tale(-1, 0), -1);
        CHECK.due("pane 2", x.tale(0, 2), -1);
        CHECK.due("pane -1", x.tale(0, -1), -1);
        CHECK.due("pane 2, no so many", x.tale(99, 2), -1);
        x.light(1, 1);
        CHECK.due("just one in b", x.tales(), 8);
        x.light(0, 0);
        CHECK.due("and none in a", x.tales(), 4);
        x.sight(1, 0, false);
        CHECK.due("not by r", x.tales(), 2);
        CHECK.due("u in q", x.tale(0, 0), 1);
        CHECK.due("v in q", x.tale(1, 1), 1);
        x.sight(0, 1, true);
        CHECK.due("against it", x.tales(), 0);
        CHECK.due("no tale", x.tale(0, 0), -3);
        x = Check.told(TERRACE);
        x.light(0, 6);
        CHECK.due("more than there can be", x.tales(), 0);
    }

    private static void strikes() {
        WindowLoans x = Check.told(TERRACE);
        x.light(0, 1);
        int one = x.tales();
        x.light(0, 0);
        CHECK.due("both", x.tales(), 0);
        CHECK.due("a strike", x.strike(1), 2);
        CHECK.due("without the second", x.tales(), one);
        CHECK.due("a strike of it", x.strike(2), 3);
        CHECK.due("both again", x.tales(), 0);
        CHECK.due("a strike of that", x.strike(3), 4);
        CHECK.due("without the second again", x.tales(), one);
        CHECK.due("another strike of the second", x.strike(1), 5);
        CHECK.due("a strike of the strike of a strike", x.strike(4), 6);
        CHECK.due("the other strike holds", x.tales(), one);
    }

    private static void known() {
        WindowLoans x = Check.told(TERRACE);
        CHECK.due("known(1) of none", x.known(1), false);
        CHECK.due("known(-2)", x.known(-2), false);
        CHECK.due("known(0) of none", x.known(0), true);
        x.light(0, 1);
        CHECK.due("by none", x.count(7), 0);
        CHECK.due("nothing known", x.tales(), 13);
        CHECK.due("known(-1)", x.known(-1), true);
        CHECK.due("by all", x.count(7), 1);
        CHECK.due("u or v in p", x.tales(), 6);
        x.light(1, 1);
        CHECK.due("those to come too", x.tales(), 4);
        CHECK.due("by all then", x.count(7), 2);
        x.strike(0);
        CHECK.due("the strike too", x.tales(), 8);
        CHECK.due("known(2)", x.known(2), true);
        CHECK.due("a strike that isn't known", x.tales(), 4);
        CHECK.due("by two", x.count(7), 2);
        CHECK.due("known(3)", x.known(3), true);
        x.light(1, 6);
        CHECK.due("by three, not those to come", x.tales(), 8);
        CHECK.due("known(5)", x.known(5), false);
        CHECK.due("it stays", x.count(7), 3);
        CHECK.due("known(4)", x.known(4), true);
        CHECK.due("by four", x.tales(), 0);
        CHECK.due("known(1)", x.known(1), true);
        CHECK.due("by one", x.tales(), 6);
    }

    private static void sure() {
        WindowLoans x = Check.told(TERRACE);
        CHECK.due("not the same", x.sure(0), -3);
        CHECK.due("pane 2", x.sure(2), -1);
        CHECK.due("pane -1", x.sure(-1), -1);
        x.light(0, 0);
        x.light(1, 0);
        CHECK.due("store", x.sure(0), -2);
        x = Check.told("house a;house b;hole p a 1;hole q b 2;hole r b 2;pane u 1;pane v 2;");
        x.light(0, 1);
        CHECK.due("in p", x.sure(0), 0);
        CHECK.due("anywhere", x.sure(1), -3);
        x.light(0, 0);
        CHECK.due("there are none", x.sure(0), -3);
    }

    private static void broken() {
        WindowLoans x = Check.told(TERRACE);
        x.bird(0);
        CHECK.due("orders of the other one", x.tales(), 4);
        CHECK.due("a broken one", x.tale(0, 0), -2);
        CHECK.due("the other one", x.tale(0, 1), 0);
        CHECK.due("sure", x.sure(0), -2);
        x.light(0, 2);
        CHECK.due("there are none", x.sure(0), -3);
        x.nights(1);
        CHECK.due("complaints stay", x.count(6), 1);
    }

    private static void chances() {
        WindowLoans x = Check.told("house a;house b;hole p a 1;hole q b 1;hole r b 2;pane u 1 in p;pane v 1 in q;"
            + "law snap far * 50 + panes;carriers 9;");
        // by the seed 0 the first ten numbers are 0, 68, 88, 17, 98, 27, 45, 41, 22, 10
        CHECK.due("51 from a to b, one hangs there", x.chance(0, 0, 1, 1), 3);
        CHECK.due("1 where it is", x.chance(0, 0, 0, 1), 9);
        CHECK.due("all of two are drawn", x.chance(0, 0, 0, 2), 9);
        CHECK.due("the highest seed", x.chance(Integer.MAX_VALUE, 0, 0, 20) >= 0, true);
        CHECK.due("seed -1", x.chance(-1, 0, 0, 1), -1);
        CHECK.due("n 0", x.chance(0, 0, 0, 0), -1);
        CHECK.due("n 21", x.chance(0, 0, 0, 21), -1);
        CHECK.due("pane 2", x.chance(0, 2, 0, 1), -1);
        CHECK.due("pane -1", x.chance(0, -1, 0, 1), -1);
        CHECK.due("hole 3", x.chance(0, 0, 3, 1), -1);
        CHECK.due("store", x.chance(0, 0, -1, 1), -1);
        CHECK.due("it does not fit", x.chance(0, 0, 2, 1), -1);
        CHECK.due("no move", x.count(11), 0);
        x.bird(1);
        CHECK.due("broken", x.chance(0, 1, 0, 1), -1);
        CHECK.due("50 from a to b", x.chance(0, 0, 1, 1), 3);
        CHECK.due("the object's own numbers stay: 0", x.move(0, 1), 0);
        x = Check.told("house a;hole p a 1;pane u 1;");
        CHECK.due("without a law", x.chance(7, 0, 0, 20), 10);
        x = Check.told("house a;hole p a 1;pane u 1;law snap 100;");
        CHECK.due("sure to break", x.chance(7, 0, 0, 1), 0);
        x = Check.told("house a;hole p a 1;pane u 1;law snap 1 / 0;");
        CHECK.due("an error", x.chance(0, 0, 0, 20), 10);
    }
}
