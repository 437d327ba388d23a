/** Boundary cases of promises 32, 33 and 34: images and counts. */
final class ImageEdges {
    private static final String TERRACE = "house a;house b;hole p a 1 sees b;hole q b 1;pane u 1 in p;pane v 1;"
        + "feast 1 a 1;feast 2 a 1;tax 1;tax 2;law due 7;law snap 50;carriers 3;";

    private ImageEdges() {
    }

    // ---- promise 32

    @Sentence(promise = 32, says = "An IMAGE is kept (in place of one ahead): which NIGHT is next")
    static void anImageIsKept(Check c) {
        WindowLoans x = Check.told(TERRACE);
        c.due("night 0", x.keep(), 0);
        x.nights(3);
        c.due("night 3", x.keep(), 3);
        x.nights(58);
        c.due("in place of the one ahead", x.back(), 3);
        x.nights(58);
        c.due("behind the last night", x.keep(), 61);
        c.due("its night", x.back(), 61);
        c.due("of nothing told", new WindowLoans().keep(), 0);
    }

    @Sentence(promise = 32, says = "An IMAGE is kept")
    static void keepingChangesNothing(Check c) {
        WindowLoans x = Check.told(TERRACE);
        x.nights(1);
        x.move(0, -1);
        x.light(0, 1);
        x.keep();
        c.due("it can be undone", x.count(8), 1);
        c.due("moves", x.count(11), 1);
        c.due("complaints", x.count(6), 1);
        c.due("undone", x.undo(), 0);
        c.due("it hangs", x.look(0, 0), 0);
        x.back();
        c.due("as in the image", x.look(0, 0), -1);
    }

    // ---- promise 33

    @Sentence(promise = 33, says = "NONE: there is none")
    static void thereIsNoImage(Check c) {
        WindowLoans x = Check.told(TERRACE);
        c.due("at first", x.back(), -1);
        c.due("a new object", new WindowLoans().back(), -1);
        x.nights(2);
        c.due("nothing changes", x.back() + x.count(5), 1);
        x.keep();
        Check.tell(x, TERRACE);
        c.due("behind a text", x.back(), -1);
    }

    @Sentence(promise = 33, says = "All is as in the IMAGE (nothing to undo then): which NIGHT is next")
    static void allIsAsInTheImage(Check c) {
        WindowLoans x = Check.told(TERRACE);
        x.nights(2);
        x.move(0, -1);
        x.keep();
        // by the seed 0 the first number is 0
        c.due("a number is drawn", x.move(1, 1), 0);
        x.nights(5);
        x.bird(0);
        c.due("which is next", x.back(), 2);
        c.due("the night", x.count(5), 2);
        c.due("u", x.look(0, 0), -1);
        c.due("v", x.look(1, 0), -1);
        c.due("broken", x.count(9), 0);
        c.due("moves tonight", x.count(11), 1);
        c.due("paid by a", x.house(0, 2), 7);
        c.due("paid in all", x.count(10), 14);
        c.due("sights", x.saw(0, 1, -1), 2);
        c.due("the last sight", x.saw(0, 1, 1), 1);
        c.due("a feast that was lit", x.feast(0), 1);
        c.due("a feast ahead", x.feast(1), -2);
        c.due("numbers drawn", x.move(1, 1), 0);
        c.due("carriers left", x.move(0, 0), 1);
        c.due("and no more", x.move(0, -1), -2);
    }

    @Sentence(promise = 33, says = "All is as in the IMAGE")
    static void whatWentByIsForgotten(Check c) {
        WindowLoans x = Check.told(TERRACE);
        x.nights(1);
        x.keep();
        x.nights(60);
        c.due("sights ahead", x.saw(0, 1, -1), 61);
        c.due("lit ahead", x.feast(0) + x.feast(1), 2);
        c.due("back", x.back(), 1);
        c.due("sights of one night", x.saw(0, 1, -1), 1);
        c.due("nothing is paid", x.count(10), 0);
        x.bird(0);
        x.nights(60);
        c.due("sights of that night alone", x.saw(0, 1, -1), 1);
        c.due("not lit this time", x.feast(0) + x.feast(1), 0);
    }

    @Sentence(promise = 33, says = "(nothing to undo then)")
    static void nothingToUndoThen(Check c) {
        WindowLoans x = Check.told(TERRACE);
        x.move(0, -1);
        x.keep();
        x.move(0, 1);
        x.back();
        c.due("count", x.count(8), 0);
        c.due("undo", x.undo(), -1);
        c.due("it stays as in the image", x.look(0, 0), -1);
        c.due("moves as in the image", x.count(11), 1);
        x.move(0, 1);
        c.due("what comes behind it can be", x.count(8), 1);
    }

    @Sentence(promise = 33, says = "All is as in the IMAGE")
    static void anImageStays(Check c) {
        WindowLoans x = Check.told(TERRACE);
        x.keep();
        for (int k = 0; k < 3; k++) {
            x.bird(0);
            x.nights(1 + k);
            c.due("back " + k, x.back(), 0);
            c.due("u hangs again " + k, x.look(0, 0), 0);
        }
        // what could be planned with the broken pane must not linger
        c.due("most", x.most(), 2);
        x.bird(0);
        c.due("most of one", x.most(), 1);
        x.back();
        c.due("most of two again", x.most(), 2);
    }

    @Sentence(promise = 33, says = "An IMAGE keeps all but COMPLAINTS")
    static void allButComplaints(Check c) {
        WindowLoans x = Check.told(TERRACE);
        x.light(0, 1);
        x.keep();
        x.light(0, 6);
        x.known(1);
        x.back();
        c.due("complaints stay", x.count(6), 2);
        c.due("by how many they are known stays", x.count(7), 1);
        c.due("u or v in p", x.tales(), 4);
        x.known(-1);
        c.due("none by both", x.tales(), 0);
    }

    // ---- promise 34

    @Sentence(promise = 34, says = "0 HOUSES, 1 HOLES, 2 PANES, 3 FEASTS, 4 KNOTS")
    static void countsOfWhatIsTold(Check c) {
        int[] full = {5, 6, 4, 5, 64};
        int[] few = {1, 0, 0, 0, 0};
        WindowLoans x = Check.told(FaultEdges.FULL);
        for (int what = 0; what < full.length; what++) {
            c.due("as much as can be, count(" + what + ")", x.count(what), full[what]);
        }
        Check.tell(x, "house a;");
        for (int what = 0; what < few.length; what++) {
            c.due("one house, count(" + what + ")", x.count(what), few[what]);
        }
    }

    @Sentence(promise = 34, says = "5 the NIGHT that is next")
    static void countOfNights(Check c) {
        WindowLoans x = new WindowLoans();
        c.due("at first", x.count(5), 0);
        x.nights(61);
        c.due("behind the last one", x.count(5), 61);
    }

    @Sentence(promise = 34, says = "6 COMPLAINTS, 7 by how many they are KNOWN")
    static void countsOfComplaints(Check c) {
        WindowLoans x = Check.told(TERRACE);
        c.due("none", x.count(6), 0);
        c.due("known by none", x.count(7), 0);
        for (int k = 0; k < 24; k++) {
            x.light(0, 1);
        }
        c.due("24", x.count(6), 24);
        c.due("known by all", x.count(7), 24);
        x.known(0);
        c.due("by none", x.count(7), 0);
        x.known(23);
        c.due("by all but one", x.count(7), 23);
        x.known(-1);
        c.due("by all again", x.count(7), 24);
    }

    @Sentence(promise = 34, says = "8 what can be undone, 9 BROKEN panes")
    static void countsOfUndoneAndBroken(Check c) {
        WindowLoans x = Check.told("house a;hole p a 1;hole q a 1;hole r a 1;hole s a 1;pane u 1 in p;pane v 1 in q;"
            + "pane w 1 in r;pane z 1 in s;");
        for (int k = 0; k < 4; k++) {
            c.due("undone after " + k, x.count(8), k);
            c.due("broken after " + k, x.count(9), k);
            x.bird(k);
        }
        c.due("all are broken", x.count(9), 4);
        x.undo();
        c.due("one is undone", x.count(9), 3);
        x.nights(1);
        c.due("a night went by", x.count(8), 0);
        c.due("broken for good", x.count(9), 3);
    }

    @Sentence(promise = 34, says = "10 all that was paid, 11 MOVES tonight")
    static void countsOfPaidAndMoves(Check c) {
        WindowLoans x = Check.told(FaultEdges.FULL);
        x.nights(61);
        c.due("the most that can be paid", x.count(10), 4 * 5 * 9999);
        x = Check.told("house a;hole p a 1;pane u 1;carriers 9;tax 0;");
        for (int k = 0; k < 9; k++) {
            c.due("moves", x.count(11), k);
            x.move(0, k % 2 == 0 ? 0 : -1);
        }
        c.due("nine", x.count(11), 9);
        x.undo();
        c.due("one is undone", x.count(11), 8);
        x.nights(1);
        c.due("another night", x.count(11), 0);
    }

    @Sentence(promise = 34, says = "NONE for another what")
    static void countOfAnotherWhat(Check c) {
        WindowLoans x = Check.told(TERRACE);
        for (int what : new int[] {Integer.MIN_VALUE, -1, 12, 13, Integer.MAX_VALUE}) {
            c.due("count(" + what + ")", x.count(what), -1);
        }
    }
}
