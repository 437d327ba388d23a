/** Promises 6, 7, 8, 10, 30 to 34: looks, moves, birds, what is undone, images, counts. */
public final class PaneTest {
    private static final Check CHECK = new Check();
    private static final String TERRACE = "house a;house b;hole p a 1 sees b;hole q b 1;hole r b 2 sees a;"
        + "hole s b 2 sees b;pane u 1 in p;pane v 2;frame 2 1;";

    public static void main(String[] args) {
        looks();
        holes();
        houses();
        moves();
        broken();
        carriersLeft();
        birds();
        undone();
        images();
        counts();
        CHECK.end();
    }

    private static void looks() {
        WindowLoans x = Check.told(TERRACE);
        CHECK.due("u hangs", Check.look(x, 0, 0), 0);
        CHECK.due("v in store", Check.look(x, 1, 0), -1);
        CHECK.due("size of u", Check.look(x, 0, 1), 1);
        CHECK.due("size of v", Check.look(x, 1, 1), 2);
        CHECK.due("u fits", Check.look(x, 0, 2), 3);
        CHECK.due("v fits by a frame told behind it", Check.look(x, 1, 2), 15);
        CHECK.due("what 3", Check.look(x, 0, 3), Check.NO_WHAT);
        CHECK.due("what -1", Check.look(x, 0, -1), Check.NO_WHAT);
        CHECK.due("pane 2", Check.look(x, 2, 0), Check.NO_PANE);
        CHECK.due("pane -1", Check.look(x, -1, 0), Check.NO_PANE);
        CHECK.due("pane -2 and no what", Check.look(x, -2, 9), Check.NO_PANE);
        x.bird(0);
        CHECK.due("broken", Check.look(x, 0, 0), -2);
        CHECK.due("broken, its size", Check.look(x, 0, 1), 1);
        CHECK.due("broken, it fits", Check.look(x, 0, 2), 3);
        CHECK.due("of nothing told", Check.look(new WindowLoans(), 0, 7), Check.NO_PANE);
        x = Check.told("house a;hole p a 1;hole q a 2;hole r a 8;hole s a 9;frame 1 9;frame 9 1;pane u 1;pane v 2;pane w 9;");
        CHECK.due("1 fits 1 and 9", Check.look(x, 0, 2), 9);
        CHECK.due("2 fits 2", Check.look(x, 1, 2), 2);
        CHECK.due("9 fits 9 and 1", Check.look(x, 2, 2), 9);
    }

    private static void holes() {
        WindowLoans x = Check.told(TERRACE);
        CHECK.due("house of r", x.hole(2, 0), 1);
        CHECK.due("size of r", x.hole(2, 1), 2);
        CHECK.due("garden of r", x.hole(2, 2), 0);
        CHECK.due("garden of q", x.hole(1, 2), -1);
        CHECK.due("pane in p", x.hole(0, 3), 0);
        CHECK.due("pane in q", x.hole(1, 3), -1);
        CHECK.due("what 4", x.hole(0, 4), -1);
        CHECK.due("what -1", x.hole(0, -1), -1);
        CHECK.due("hole 4", x.hole(4, 0), -1);
        CHECK.due("hole -1", x.hole(-1, 3), -1);
        x.move(0, 1);
        CHECK.due("pane in q then", x.hole(1, 3), 0);
        CHECK.due("pane in p then", x.hole(0, 3), -1);
    }

    private static void houses() {
        WindowLoans x = Check.told(TERRACE + "tax 0;law due size + place;carriers 9;");
        CHECK.due("light of a", x.house(0, 0), 1);
        CHECK.due("light of b", x.house(1, 0), 0);
        CHECK.due("sight of a", x.house(0, 1), 2);
        x.move(1, 3);
        CHECK.due("sight of b: its own garden", x.house(1, 1), 2);
        x.move(1, 2);
        CHECK.due("sight of b", x.house(1, 1), 1);
        x.move(0, 1);
        CHECK.due("light of b, two", x.house(1, 0), 2);
        CHECK.due("sight of a, none hangs", x.house(0, 1), 0);
        CHECK.due("paid ahead", x.house(1, 2), 0);
        CHECK.due("due", x.house(1, 3), 4);
        x.nights(2);
        CHECK.due("paid", x.house(1, 2), 4);
        CHECK.due("paid by a", x.house(0, 2), 0);
        CHECK.due("what 4", x.house(0, 4), -1);
        CHECK.due("what -1", x.house(0, -1), -1);
        CHECK.due("house 2", x.house(2, 0), -1);
        CHECK.due("house -1", x.house(-1, 0), -1);
    }

    private static void moves() {
        WindowLoans x = Check.told(TERRACE + "carriers 4;");
        CHECK.due("no such pane", x.move(2, 1), -1);
        CHECK.due("pane -1", x.move(-1, -1), -1);
        CHECK.due("no such hole", x.move(0, 4), -1);
        CHECK.due("hole -2", x.move(0, -2), -1);
        CHECK.due("it does not fit", x.move(0, 2), -1);
        CHECK.due("one hangs there", x.move(1, 0), -1);
        CHECK.due("it is there", x.move(0, 0), -1);
        CHECK.due("it is in store", x.move(1, -1), -1);
        CHECK.due("none of these counts", x.count(11), 0);
        CHECK.due("none can be undone", x.count(8), 0);
        CHECK.due("to a hole", x.move(0, 1), 1);
        CHECK.due("to a hole that was left", x.move(1, 0), 1);
        CHECK.due("to store", x.move(0, -1), 1);
        CHECK.due("it is in store", x.look(0, 0), -1);
        CHECK.due("again to a hole", x.move(0, 1), 1);
        CHECK.due("NONE ahead of -2", x.move(0, 1), -1);
        CHECK.due("no carrier is left", x.move(0, -1), -2);
        CHECK.due("moves tonight", x.count(11), 4);
        x.nights(1);
        CHECK.due("another night", x.count(11), 0);
        CHECK.due("they carry again", x.move(0, -1), 1);
    }

    private static void broken() {
        // by the seed 0 the first numbers modulo 100 are 0, 68, 88, 17, 98, 27
        WindowLoans x = Check.told("house a;hole p a 1;hole q a 1;pane u 1;pane v 1;pane w 1;law snap 17;carriers 9;");
        CHECK.due("0 is below 17", x.move(0, 0), 0);
        CHECK.due("broken", x.look(0, 0), -2);
        CHECK.due("its hole is free", x.hole(0, 3), -1);
        CHECK.due("no light by it", x.house(0, 0), 0);
        CHECK.due("a broken one moves no more", x.move(0, -1), -1);
        CHECK.due("68 isn't", x.move(1, 0), 1);
        CHECK.due("to store", x.move(1, -1), 1);
        CHECK.due("88 isn't: store draws none", x.move(1, 0), 1);
        CHECK.due("17 isn't", x.move(2, 1), 1);
        CHECK.due("broken ones", x.count(9), 1);
        x = Check.told("house a;hole p a 1;hole q a 1;pane u 1;pane v 1;law snap 69;carriers 9;");
        x.move(0, 0);
        CHECK.due("68 is below 69", x.move(1, 1), 0);
        x = Check.told("house a;hole p a 1;pane u 1;law snap 67;carriers 9;seed 12345;");
        CHECK.due("a seed goes on where it stands", x.move(0, 0), 1);
        x = Check.told("house a;hole p a 1;pane u 1;pane v 1;carriers 9;");
        x.move(0, 0);
        x.move(0, -1);
        CHECK.due("numbers are drawn without a law too", x.move(0, 0), 1);
    }

    private static void carriersLeft() {
        WindowLoans x = Check.told("house a;hole p a 1;pane u 1 in p;carriers 0;");
        CHECK.due("no carriers", x.move(0, -1), -2);
        x = Check.told("house a;hole p a 1;pane u 1 in p;");
        CHECK.due("two without", x.move(0, -1) + x.move(0, 0) + x.move(0, -1), 0);
        CHECK.due("moves", x.count(11), 2);
        x.undo();
        CHECK.due("one again", x.move(0, -1), -1);
        CHECK.due("it hangs", x.look(0, 0), -1);
        CHECK.due("moves", x.count(11), 1);
        CHECK.due("a move", x.move(0, 0), 1);
        CHECK.due("none is left", x.move(0, -1), -2);
    }

    private static void birds() {
        WindowLoans x = Check.told(TERRACE + "carriers 0;");
        CHECK.due("no such hole", x.bird(4), -1);
        CHECK.due("hole -1", x.bird(-1), -1);
        CHECK.due("none hangs there", x.bird(1), -2);
        CHECK.due("u is broken", x.bird(0), 0);
        CHECK.due("none hangs there then", x.bird(0), -2);
        CHECK.due("a bird is no move", x.count(11), 0);
        CHECK.due("it can be undone", x.count(8), 1);
    }

    private static void undone() {
        WindowLoans x = Check.told(TERRACE + "carriers 9;");
        CHECK.due("none", x.undo(), -1);
        x.move(0, 1);
        x.move(1, 0);
        x.bird(1);
        CHECK.due("a bird", x.undo(), 2);
        CHECK.due("u hangs again", x.look(0, 0), 1);
        CHECK.due("moves stay", x.count(11), 2);
        CHECK.due("a move", x.undo(), 1);
        CHECK.due("v in store again", x.look(1, 0), -1);
        CHECK.due("moves", x.count(11), 1);
        x.nights(0);
        CHECK.due("no night went by", x.count(8), 1);
        x.nights(1);
        CHECK.due("a night went by", x.undo(), -1);
        CHECK.due("u stays", x.look(0, 0), 1);
        CHECK.due("nothing to undo", x.count(8), 0);
        x = Check.told("house a;hole p a 1;pane u 1;law snap 50;carriers 9;");
        CHECK.due("0", x.move(0, 0), 0);
        CHECK.due("undone", x.undo(), 0);
        CHECK.due("what was drawn stays drawn: 68", x.move(0, 0), 1);
        // nine moves and four birds are all that one night can hold
        x = Check.told("house a;hole p a 1;hole q a 1;hole r a 1;hole s a 1;pane u 1 in p;pane v 1 in q;"
            + "pane w 1 in r;pane z 1 in s;carriers 9;");
        for (int k = 0; k < 9; k++) {
            CHECK.due("a move", x.move(0, k % 2 == 0 ? -1 : 0), 1);
        }
        for (int hole = 1; hole < 4; hole++) {
            x.bird(hole);
        }
        CHECK.due("all can be undone", x.count(8), 12);
        for (int left = 11; left >= 0; left--) {
            CHECK.due("undone, left", x.undo(), left);
        }
        CHECK.due("as at first", x.house(0, 0), 4);
        CHECK.due("no moves", x.count(11), 0);
    }

    private static void images() {
        WindowLoans x = Check.told(TERRACE + "tax 1;feast 1 a 1;law snap 50;carriers 9;");
        CHECK.due("none", x.back(), -1);
        x.nights(1);
        x.move(0, -1);
        x.light(0, 1);
        CHECK.due("kept", x.keep(), 1);
        CHECK.due("undo stays", x.count(8), 1);
        CHECK.due("a number, 0", x.move(1, 2), 0);
        x.strike(0);
        x.known(1);
        CHECK.due("nights", x.nights(3), 4);
        CHECK.due("feast", x.feast(0), 0);
        CHECK.due("back", x.back(), 1);
        CHECK.due("nothing to undo", x.undo(), -1);
        CHECK.due("moves of that night", x.count(11), 1);
        CHECK.due("u in store", x.look(0, 0), -1);
        CHECK.due("v whole", x.look(1, 0), -1);
        CHECK.due("nothing paid", x.count(10), 0);
        CHECK.due("the feast is ahead", x.feast(0), -2);
        CHECK.due("sights of one night", x.saw(0, 1, -1), 1);
        CHECK.due("complaints stay", x.count(6), 2);
        CHECK.due("known stays", x.count(7), 1);
        CHECK.due("numbers as in the image", x.move(1, 2), 0);
        CHECK.due("the image stays", x.back(), 1);
        CHECK.due("v whole again", x.look(1, 0), -1);
        x.nights(2);
        CHECK.due("another one", x.keep(), 3);
        x.nights(5);
        CHECK.due("in its place", x.back(), 3);
        x = Check.told("house a;hole p a 1;pane u 1 in p;feast 0 a 1;feast 1 a 1;");
        x.nights(1);
        x.keep();
        x.nights(1);
        CHECK.due("both were lit", x.feast(0) + x.feast(1), 2);
        x.back();
        x.bird(0);
        x.nights(1);
        CHECK.due("the first one was lit", x.feast(0), 1);
        CHECK.due("the second one isn't this time", x.feast(1), 0);
    }

    private static void counts() {
        WindowLoans x = Check.told(TERRACE + "feast 0 a 1;feast 1 a 1;feast 2 b 0;law due 1 + panes;tax 0;tax 1;");
        x.nights(1);
        x.light(0, 1);
        x.strike(0);
        x.known(1);
        x.move(1, 1);
        x.bird(0);
        int[] want = {2, 4, 2, 3, 3, 1, 2, 1, 2, 1, 3, 1};
        for (int what = 0; what < want.length; what++) {
            CHECK.due("count(" + what + ")", x.count(what), want[what]);
        }
        CHECK.due("count(12)", x.count(12), -1);
        CHECK.due("count(-1)", x.count(-1), -1);
    }
}
