/** Boundary cases of promises 6, 7, 8, 10, 30 and 31: looks, moves, birds, what is undone. */
final class PaneEdges {
    private static final String TERRACE = "house a;house b;hole p a 1 sees b;hole q b 1;hole r b 2 sees a;"
        + "hole s b 2 sees b;pane u 1 in p;pane v 2;";
    private static final int LOWEST = Integer.MIN_VALUE;
    private static final int HIGHEST = Integer.MAX_VALUE;

    private PaneEdges() {
    }

    // ---- promise 6

    @Sentence(promise = 6, says = "its HOLE (NONE: in STORE; -2: BROKEN)")
    static void whereAPaneIs(Check c) {
        WindowLoans x = Check.told(TERRACE);
        c.due("hole 0", x.look(0, 0), 0);
        c.due("in store", x.look(1, 0), -1);
        x.move(1, 3);
        c.due("hole 3", x.look(1, 0), 3);
        x.bird(3);
        c.due("broken by a bird", x.look(1, 0), -2);
        x = Check.told(TERRACE + "law snap 100;");
        x.move(1, 3);
        c.due("broken by a move", x.look(1, 0), -2);
    }

    @Sentence(promise = 6, says = "2: which HOLES it FITS (bits)")
    static void whichHolesItFits(Check c) {
        WindowLoans x = Check.told(TERRACE + "pane w 9;frame 2 1;frame 9 3;");
        c.due("of its size, one hangs there", x.look(0, 2), 0b0011);
        c.due("by a frame that is told behind it", x.look(1, 2), 0b1111);
        c.due("none", x.look(2, 2), 0);
        x.bird(0);
        c.due("a broken one", x.look(0, 2), 0b0011);
        x = Check.told("house a;hole a a 1;hole b a 9;hole c a 1;hole d a 9;hole e a 1;hole f a 9;pane u 1;pane v 9;"
            + "frame 1 9;");
        c.due("all six", x.look(0, 2), 0b111111);
        c.due("a frame is for one way", x.look(1, 2), 0b101010);
        Check.tell(x, "house a;hole a a 1;hole b a 9;pane u 1;");
        c.due("a frame of the text ahead", x.look(0, 2), 1);
    }

    @Sentence(promise = 6, says = "IndexOutOfBoundsException: no such PANE")
    static void noSuchPane(Check c) {
        WindowLoans x = Check.told(TERRACE);
        c.due("the last one", Check.look(x, 1, 1), 2);
        for (int pane : new int[] {LOWEST, -2, -1, 2, 3, 4, HIGHEST}) {
            c.due("pane " + pane, Check.look(x, pane, 0), Check.NO_PANE);
            c.due("pane " + pane + ", no such what", Check.look(x, pane, 3), Check.NO_PANE);
        }
        x.text(0);
        c.due("a pane of the text ahead", Check.look(x, 0, 0), Check.NO_PANE);
    }

    @Sentence(promise = 6, says = "NoSuchElementException: no such what")
    static void noSuchWhatOfAPane(Check c) {
        WindowLoans x = Check.told(TERRACE);
        for (int what : new int[] {LOWEST, -1, 3, HIGHEST}) {
            c.due("what " + what, Check.look(x, 0, what), Check.NO_WHAT);
        }
        x.bird(0);
        c.due("what 3 of a broken one", Check.look(x, 0, 3), Check.NO_WHAT);
    }

    // ---- promise 7

    @Sentence(promise = 7, says = "what 0 its HOUSE, 1 SIZE")
    static void houseAndSizeOfAHole(Check c) {
        WindowLoans x = Check.told("house a;house b;house c;house d;house e;hole p e 9;hole q a 1;hole r c 5;");
        int[] houses = {4, 0, 2};
        int[] sizes = {9, 1, 5};
        for (int hole = 0; hole < 3; hole++) {
            c.due("house of hole " + hole, x.hole(hole, 0), houses[hole]);
            c.due("size of hole " + hole, x.hole(hole, 1), sizes[hole]);
        }
    }

    @Sentence(promise = 7, says = "2 whose garden one sees (NONE)")
    static void whoseGarden(Check c) {
        WindowLoans x = Check.told(TERRACE);
        c.due("the next house's", x.hole(0, 2), 1);
        c.due("no one's", x.hole(1, 2), -1);
        c.due("the first house's", x.hole(2, 2), 0);
        c.due("its own", x.hole(3, 2), 1);
    }

    @Sentence(promise = 7, says = "3 which pane hangs there now (NONE)")
    static void whichPaneHangs(Check c) {
        WindowLoans x = Check.told(TERRACE);
        c.due("pane 0", x.hole(0, 3), 0);
        c.due("none", x.hole(2, 3), -1);
        x.move(1, 2);
        c.due("moved there", x.hole(2, 3), 1);
        x.move(0, -1);
        c.due("moved away", x.hole(0, 3), -1);
        x.bird(2);
        c.due("broken", x.hole(2, 3), -1);
        x = Check.told(TERRACE + "law snap 100;");
        x.move(1, 2);
        c.due("broken on its way", x.hole(2, 3), -1);
    }

    @Sentence(promise = 7, says = "NONE: no such ones")
    static void noSuchHoles(Check c) {
        WindowLoans x = Check.told(TERRACE);
        c.due("the last one", x.hole(3, 1), 2);
        for (int hole : new int[] {LOWEST, -2, -1, 4, 5, 6, HIGHEST}) {
            for (int what = 0; what < 4; what++) {
                c.due("hole " + hole + ", what " + what, x.hole(hole, what), -1);
            }
        }
        for (int what : new int[] {LOWEST, -1, 4, HIGHEST}) {
            c.due("what " + what, x.hole(0, what), -1);
        }
    }

    // ---- promise 8

    @Sentence(promise = 8, says = "LIGHT of a HOUSE: how many panes hang there")
    static void lightOfAHouse(Check c) {
        WindowLoans x = Check.told("house a;house b;hole p a 1;hole q a 1;hole r a 1;hole s a 1;pane u 1 in p;"
            + "pane v 1 in q;pane w 1 in r;pane z 1;");
        c.due("without holes", x.house(1, 0), 0);
        c.due("three", x.house(0, 0), 3);
        x.move(3, 3);
        c.due("all four", x.house(0, 0), 4);
        x.bird(0);
        x.move(1, -1);
        c.due("one broken, one in store", x.house(0, 0), 2);
    }

    @Sentence(promise = 8, says = "SIGHT: HOUSES whose garden is seen by HOLES there in which a pane hangs")
    static void sightOfAHouse(Check c) {
        WindowLoans x = Check.told("house a;house b;house c;house d;house e;hole p a 1 sees e;hole q a 1 sees a;"
            + "hole r a 1 sees e;hole s a 1;hole t b 1 sees c;pane u 1;pane v 1;pane w 1;pane z 1;carriers 9;");
        c.due("no pane hangs", x.house(0, 1), 0);
        x.move(0, 0);
        c.due("the last house's garden", x.house(0, 1), 0b10000);
        x.move(1, 1);
        c.due("its own too", x.house(0, 1), 0b10001);
        x.move(2, 2);
        c.due("one garden by two holes", x.house(0, 1), 0b10001);
        x.move(3, 3);
        c.due("a hole that sees none", x.house(0, 1), 0b10001);
        x.bird(0);
        c.due("by the other hole", x.house(0, 1), 0b10001);
        x.bird(2);
        c.due("by none", x.house(0, 1), 0b00001);
        c.due("of a house without panes", x.house(1, 1), 0);
    }

    @Sentence(promise = 8, says = "2 what it has paid, 3 E of due tonight as it would be paid")
    static void paidAndDue(Check c) {
        WindowLoans x = Check.told("house a;tax 1;law due 10 + night;");
        c.due("nothing yet", x.house(0, 2), 0);
        c.due("tonight, though there is no tax", x.house(0, 3), 10);
        x.nights(1);
        c.due("no tax went by", x.house(0, 2), 0);
        c.due("on the night of a tax", x.house(0, 3), 11);
        x.nights(1);
        c.due("paid", x.house(0, 2), 11);
        x.nights(59);
        c.due("behind the last night", x.house(0, 3), 71);
        c.due("paid once", x.house(0, 2), 11);
    }

    @Sentence(promise = 8, says = "NONE: no such ones")
    static void noSuchHouses(Check c) {
        WindowLoans x = Check.told(TERRACE);
        c.due("the last one", x.house(1, 0), 0);
        for (int house : new int[] {LOWEST, -2, -1, 2, 3, 4, 5, HIGHEST}) {
            for (int what = 0; what < 4; what++) {
                c.due("house " + house + ", what " + what, x.house(house, what), -1);
            }
        }
        for (int what : new int[] {LOWEST, -1, 4, HIGHEST}) {
            c.due("what " + what, x.house(0, what), -1);
        }
    }

    // ---- promise 10

    @Sentence(promise = 10, says = "1 it hangs there (or lies in STORE), 0 it is BROKEN")
    static void itHangsOrIsBroken(Check c) {
        WindowLoans x = Check.told(TERRACE);
        c.due("to a hole", x.move(0, 1), 1);
        c.due("it hangs there", x.look(0, 0), 1);
        c.due("to store", x.move(0, -1), 1);
        c.due("it lies in store", x.look(0, 0), -1);
        x = Check.told(TERRACE + "law snap 100;");
        c.due("to store nothing breaks", x.move(0, -1), 1);
        c.due("to a hole", x.move(0, 0), 0);
        c.due("it is broken", x.look(0, 0), -2);
        c.due("that is a move too", x.count(11), 2);
    }

    @Sentence(promise = 10, says = "-2: no carrier is left tonight")
    static void noCarrierIsLeft(Check c) {
        WindowLoans x = Check.told(TERRACE + "carriers 1;");
        c.due("one", x.move(0, 1), 1);
        c.due("no more", x.move(0, 0), -2);
        c.due("nor to store", x.move(0, -1), -2);
        c.due("it stays", x.look(0, 0), 1);
        c.due("moves", x.count(11), 1);
        c.due("to undo", x.count(8), 1);
        x.nights(1);
        c.due("the next night", x.move(0, 0), 1);
        x.bird(0);
        x.nights(1);
        c.due("a bird needs no carrier", x.move(1, 2), 1);
        x = Check.told(TERRACE + "carriers 1;law snap 100;");
        c.due("broken", x.move(1, 2), 0);
        c.due("a broken one was carried too", x.move(0, 1), -2);
    }

    @Sentence(promise = 10, says = "at most as many each NIGHT as there are carriers")
    static void asManyAsCarriers(Check c) {
        for (int carriers = 0; carriers <= 9; carriers++) {
            WindowLoans x = Check.told(TERRACE + "carriers " + carriers + ";");
            for (int night = 0; night < 2; night++) {
                int moved = 0;
                while (moved < 20 && x.move(0, x.look(0, 0) == -1 ? 0 : -1) == 1) {
                    moved++;
                }
                c.due(carriers + " carriers, night " + night, moved, carriers);
                x.nights(1);
            }
        }
    }

    @Sentence(promise = 10, says = "NONE: no such ones, BROKEN, it doesn't FIT, one hangs there, it is there")
    static void refusedMoves(Check c) {
        WindowLoans x = Check.told(TERRACE + "frame 2 1;pane w 1 in q;carriers 9;law snap 50;");
        for (int other : new int[] {LOWEST, -2, 4, 5, 6, 7, HIGHEST}) {
            c.due("pane " + other, x.move(other, 1), -1);
            c.due("pane " + other + " to store", x.move(other, -1), -1);
            c.due("to hole " + other, x.move(0, other), -1);
            c.due("from store to hole " + other, x.move(1, other), -1);
        }
        c.due("pane -1", x.move(-1, -1), -1);
        c.due("pane 3", x.move(3, -1), -1);
        c.due("it doesn't fit", x.move(0, 2), -1);
        c.due("one hangs there", x.move(0, 1), -1);
        c.due("one hangs there, from store", x.move(1, 0), -1);
        c.due("it is there", x.move(0, 0), -1);
        c.due("it is in store", x.move(1, -1), -1);
        x.bird(0);
        c.due("broken", x.move(0, 0), -1);
        c.due("broken, to store", x.move(0, -1), -1);
        c.due("broken, to -2", x.move(0, -2), -1);
        c.due("no moves by these", x.count(11), 0);
        c.due("a bird alone to undo", x.count(8), 1);
        // by the seed 0 the first number is 0, the second one 68
        c.due("none was drawn by these", x.move(1, 2), 0);
    }

    @Sentence(promise = 10, says = "(In this order: NONE, -2.)")
    static void noneAheadOfNoCarrier(Check c) {
        WindowLoans x = Check.told(TERRACE + "frame 2 1;pane w 1 in q;carriers 0;");
        c.due("no such pane", x.move(3, -1), -1);
        c.due("no such hole", x.move(0, 4), -1);
        c.due("it doesn't fit", x.move(0, 2), -1);
        c.due("one hangs there", x.move(0, 1), -1);
        c.due("it is there", x.move(0, 0), -1);
        c.due("it is in store", x.move(1, -1), -1);
        c.due("no carrier", x.move(0, -1), -2);
        c.due("no carrier to a hole", x.move(1, 2), -2);
        x.bird(0);
        c.due("broken", x.move(0, -1), -1);
    }

    @Sentence(promise = 10, says = "without what is above 31 bits, by 65536; one for each MOVE to a HOLE")
    static void numbersDrawn(Check c) {
        for (int seed : new int[] {0, 1, 12345, 99998, 99999}) {
            long last = seed;
            for (int k = 0; k < 12; k++) {
                last = Check.drawnBehind(last);
                int number = (int) (last / 65536) % 100;
                c.due("seed " + seed + ", number " + k + " is " + number, broken(seed, k, number), 1);
                c.due("seed " + seed + ", number " + k + " below " + (number + 1), broken(seed, k, number + 1), 0);
            }
        }
    }

    /** What a move answers that draws after k others by moves to a hole, and moves to store between. */
    private static int broken(int seed, int k, int risk) {
        WindowLoans x = Check.told("house a;house b;hole p a 1;hole q b 1;pane u 1;law snap " + risk
            + " * place;carriers 9;seed " + seed + ";");
        for (int drawn = 0; drawn < k; drawn++) {
            x.move(0, 0);
            x.move(0, -1);
            x.nights(1);
        }
        return x.move(0, 1);
    }

    @Sentence(promise = 10, says = "one for each MOVE to a HOLE")
    static void oneNumberForEachMove(Check c) {
        // by the seed 0: 0, 68, 88, 17
        WindowLoans x = Check.told("house a;hole p a 1;hole q a 2;pane u 1;pane v 2;carriers 9;law snap (size = 2) * 18;");
        x.move(0, 0);
        x.move(0, -1);
        c.due("a refused one draws none", x.move(0, 1), -1);
        x.move(0, 0);
        x.move(0, -1);
        x.chance(3, 0, 0, 20);
        x.move(0, 0);
        x.bird(0);
        x.nights(1);
        c.due("the fourth, 17, is below 18", x.move(1, 1), 0);
    }

    // ---- promise 30

    @Sentence(promise = 30, says = "A bird: which pane is BROKEN")
    static void whichPaneABirdBreaks(Check c) {
        WindowLoans x = Check.told(TERRACE + "carriers 1;");
        c.due("pane 0", x.bird(0), 0);
        c.due("broken", x.look(0, 0), -2);
        c.due("it is no move", x.count(11), 0);
        c.due("a move", x.move(1, 3), 1);
        c.due("pane 1", x.bird(3), 1);
        c.due("two are broken", x.count(9), 2);
    }

    @Sentence(promise = 30, says = "-2: none hangs there")
    static void birdWhereNoneHangs(Check c) {
        WindowLoans x = Check.told(TERRACE);
        c.due("none", x.bird(1), -2);
        c.due("none in the last hole", x.bird(3), -2);
        x.bird(0);
        c.due("none any more", x.bird(0), -2);
        c.due("one to undo", x.count(8), 1);
    }

    @Sentence(promise = 30, says = "NONE: no such HOLE")
    static void birdAtNoHole(Check c) {
        WindowLoans x = Check.told(TERRACE);
        for (int hole : new int[] {LOWEST, -2, -1, 4, 5, 6, HIGHEST}) {
            c.due("hole " + hole, x.bird(hole), -1);
        }
        c.due("none is broken", x.count(9), 0);
        c.due("none to undo", x.count(8), 0);
    }

    // ---- promise 31

    @Sentence(promise = 31, says = "The latest is undone: how many are left")
    static void theLatestIsUndone(Check c) {
        WindowLoans x = Check.told(TERRACE + "carriers 9;");
        x.move(0, 1);
        x.bird(1);
        x.move(1, 2);
        c.due("the move", x.undo(), 2);
        c.due("v is in store again", x.look(1, 0), -1);
        c.due("moves", x.count(11), 1);
        c.due("the bird", x.undo(), 1);
        c.due("u hangs again", x.look(0, 0), 1);
        c.due("moves stay", x.count(11), 1);
        c.due("the first move", x.undo(), 0);
        c.due("u hangs as at first", x.look(0, 0), 0);
        c.due("no moves", x.count(11), 0);
        x = Check.told(TERRACE + "law snap 100;");
        x.move(0, 1);
        c.due("a move that broke it", x.undo(), 0);
        c.due("it hangs where it hung", x.look(0, 0), 0);
    }

    @Sentence(promise = 31, says = "NONE: none")
    static void noneToUndo(Check c) {
        WindowLoans x = Check.told(TERRACE);
        c.due("at first", x.undo(), -1);
        x.move(0, 9);
        x.bird(1);
        c.due("refused ones can't be", x.undo(), -1);
        x.move(0, 1);
        x.undo();
        c.due("what was undone can't be again", x.undo(), -1);
        c.due("it hangs as at first", x.look(0, 0), 0);
        c.due("no moves", x.count(11), 0);
    }

    @Sentence(promise = 31, says = "the latest first (20 at most)")
    static void allOfANight(Check c) {
        // a night can't hold more than nine moves and four birds
        WindowLoans x = Check.told("house a;hole p a 1;hole q a 1;hole r a 1;hole s a 1;pane u 1;pane v 1 in q;"
            + "pane w 1 in r;pane z 1 in s;carriers 9;");
        for (int k = 0; k < 9; k++) {
            c.due("move " + k, x.move(0, k % 2 == 0 ? 0 : -1), 1);
        }
        for (int hole = 0; hole < 4; hole++) {
            c.due("bird " + hole, x.bird(hole), hole);
        }
        c.due("all of them", x.count(8), 13);
        for (int left = 12; left >= 0; left--) {
            c.due("left", x.undo(), left);
        }
        c.due("none more", x.undo(), -1);
        c.due("as at first", x.house(0, 0), 3);
        c.due("u in store", x.look(0, 0), -1);
        c.due("no moves", x.count(11), 0);
    }

    @Sentence(promise = 31, says = "if no NIGHT went by since")
    static void noNightWentBySince(Check c) {
        WindowLoans x = Check.told(TERRACE);
        x.move(0, 1);
        x.bird(1);
        x.nights(0);
        x.nights(-1);
        x.nights(62);
        c.due("none went by", x.count(8), 2);
        x.nights(1);
        c.due("one went by", x.count(8), 0);
        c.due("undo", x.undo(), -1);
        c.due("it is broken for good", x.look(0, 0), -2);
        x.move(1, 2);
        c.due("what comes behind it", x.undo(), 0);
    }

    @Sentence(promise = 31, says = "(what was drawn stays drawn)")
    static void whatWasDrawnStaysDrawn(Check c) {
        // by the seed 0: 0, 68, 88, 17
        WindowLoans x = Check.told("house a;hole p a 1;pane u 1;law snap 18;carriers 9;");
        c.due("0", x.move(0, 0), 0);
        x.undo();
        c.due("68", x.move(0, 0), 1);
        x.undo();
        c.due("88", x.move(0, 0), 1);
        x.undo();
        c.due("17", x.move(0, 0), 0);
    }
}
