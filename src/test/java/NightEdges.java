/** Boundary cases of promises 11, 12 and 13: nights, feasts, sights. */
final class NightEdges {
    private static final int LOWEST = Integer.MIN_VALUE;
    private static final int HIGHEST = Integer.MAX_VALUE;

    private NightEdges() {
    }

    // ---- promise 11

    @Sentence(promise = 11, says = "So many NIGHTS (0 .. 61) more go by: which one is next")
    static void soManyNights(Check c) {
        c.due("none", new WindowLoans().nights(0), 0);
        c.due("one", new WindowLoans().nights(1), 1);
        c.due("60", new WindowLoans().nights(60), 60);
        c.due("all", new WindowLoans().nights(61), 61);
        WindowLoans x = new WindowLoans();
        x.nights(20);
        c.due("more", x.nights(21), 41);
        c.due("up to the last", x.nights(20), 61);
        c.due("none more", x.nights(0), 61);
    }

    @Sentence(promise = 11, says = "NONE, and none does: no such number")
    static void noSuchNumberOfNights(Check c) {
        WindowLoans x = Check.told("house a;hole p a 1;pane u 1;tax 0;law due 5;");
        x.move(0, 0);
        for (int n : new int[] {LOWEST, -61, -1, 62, 63, HIGHEST}) {
            c.due("nights(" + n + ")", x.nights(n), -1);
        }
        c.due("none went by", x.count(5), 0);
        c.due("nothing was paid", x.count(10), 0);
        c.due("moves stay", x.count(11), 1);
        c.due("a move to undo", x.count(8), 1);
    }

    @Sentence(promise = 11, says = "beyond 61")
    static void beyondTheLastNight(Check c) {
        WindowLoans x = Check.told("house a;tax 60;law due 5;");
        x.nights(60);
        c.due("two more", x.nights(2), -1);
        c.due("none went by", x.count(5), 60);
        c.due("nothing was paid", x.count(10), 0);
        c.due("one more", x.nights(1), 61);
        c.due("beyond", x.nights(1), -1);
        c.due("far beyond", x.nights(61), -1);
        c.due("61 is next", x.count(5), 61);
    }

    @Sentence(promise = 11, says = "if there is a TAX, each HOUSE pays")
    static void taxesOfTheirNights(Check c) {
        WindowLoans x = Check.told("house a;house b;hole p b 3;pane u 3 in p;tax 60;tax 0;tax 2;law due night * 10 + size;");
        int[] paid = {0, 3, 3, 26};
        for (int night = 0; night <= 3; night++) {
            c.due("b ahead of night " + night, x.house(1, 2), paid[night]);
            x.nights(1);
        }
        c.due("a, without panes", x.house(0, 2), 20);
        x.nights(56);
        c.due("b ahead of the last night", x.house(1, 2), 26);
        x.nights(1);
        c.due("b behind the last night", x.house(1, 2), 629);
        c.due("all", x.count(10), 629 + 620);
    }

    @Sentence(promise = 11, says = "FEASTS of it are LIT, if LIGHT of their HOUSE is as much as they want")
    static void asMuchAsTheyWant(Check c) {
        WindowLoans x = Check.told("house a;house b;hole p a 1;hole q a 1;pane u 1 in p;pane v 1 in q;"
            + "feast 0 a 3;feast 0 a 2;feast 0 a 1;feast 0 a 0;feast 0 b 0;");
        x.nights(1);
        c.due("one more than there is", x.feast(0), 0);
        c.due("just as much", x.feast(1), 1);
        c.due("less", x.feast(2), 1);
        c.due("none wanted", x.feast(3), 1);
        c.due("none wanted, none there", x.feast(4), 1);
    }

    @Sentence(promise = 11, says = "FEASTS of it are LIT")
    static void feastsOfThatNightAlone(Check c) {
        WindowLoans x = Check.told("house a;hole p a 1;pane u 1 in p;feast 0 a 1;feast 1 a 1;feast 2 a 1;carriers 9;");
        x.nights(1);
        x.move(0, -1);
        x.nights(1);
        x.move(0, 0);
        x.nights(1);
        c.due("night 0", x.feast(0), 1);
        c.due("night 1", x.feast(1), 0);
        c.due("night 2", x.feast(2), 1);
    }

    // ---- promise 12

    @Sentence(promise = 12, says = "Of a FEAST: 1 LIT, 0 it wasn't")
    static void litOrNot(Check c) {
        WindowLoans x = Check.told("house a;house b;hole p a 1;hole q b 1;pane u 1 in p;feast 0 a 1;feast 0 b 1;"
            + "feast 60 a 1;feast 60 b 1;carriers 9;");
        x.nights(1);
        c.due("lit", x.feast(0), 1);
        c.due("it wasn't", x.feast(1), 0);
        x.move(0, 1);
        c.due("it was, whatever is moved", x.feast(0), 1);
        c.due("it wasn't, whatever is moved", x.feast(1), 0);
        x.nights(60);
        c.due("on the last night, it wasn't", x.feast(2), 0);
        c.due("on the last night", x.feast(3), 1);
    }

    @Sentence(promise = 12, says = "-2: its NIGHT isn't over")
    static void itsNightIsNotOver(Check c) {
        WindowLoans x = Check.told("house a;feast 0 a 0;feast 1 a 6;feast 60 a 0;");
        c.due("night 0 is next", x.feast(0), -2);
        x.nights(1);
        c.due("night 0 is over", x.feast(0), 1);
        c.due("night 1 is next", x.feast(1), -2);
        x.nights(59);
        c.due("night 1 is over", x.feast(1), 0);
        c.due("night 60 is next", x.feast(2), -2);
        x.nights(1);
        c.due("night 60 is over", x.feast(2), 1);
    }

    @Sentence(promise = 12, says = "NONE: no such one")
    static void noSuchFeast(Check c) {
        WindowLoans x = Check.told("house a;feast 0 a 0;feast 1 a 0;");
        x.nights(1);
        c.due("the last one", x.feast(1), -2);
        for (int feast : new int[] {LOWEST, -2, -1, 2, 3, 4, 5, 32, HIGHEST}) {
            c.due("feast " + feast, x.feast(feast), -1);
        }
    }

    // ---- promise 13

    /** One that sees the garden on nights 0, 2, 3 and 60. */
    private static WindowLoans seen() {
        WindowLoans x = Check.told("house a;house b;hole p a 1 sees b;hole q b 1 sees b;hole r b 1;pane u 1 in p;pane v 1 in q;");
        x.nights(1);
        x.move(0, -1);
        x.nights(1);
        x.move(0, 0);
        x.nights(2);
        x.move(0, -1);
        x.nights(56);
        x.move(0, 0);
        x.nights(1);
        return x;
    }

    @Sentence(promise = 13, says = "On the k-th of how many NIGHTS gone by one saw the garden of another HOUSE: that NIGHT")
    static void theNightOfASight(Check c) {
        WindowLoans x = seen();
        int[] want = {0, 2, 3, 60};
        for (int k = 0; k < want.length; k++) {
            c.due("saw(0, 1, " + k + ")", x.saw(0, 1, k), want[k]);
        }
        c.due("its own garden, the last night", x.saw(1, 1, 60), 60);
    }

    @Sentence(promise = 13, says = "with k NONE: on how many")
    static void onHowManyNights(Check c) {
        WindowLoans x = Check.told("house a;house b;hole p a 1 sees b;pane u 1 in p;");
        c.due("no night went by", x.saw(0, 1, -1), 0);
        x.nights(1);
        c.due("one", x.saw(0, 1, -1), 1);
        x.nights(60);
        c.due("all", x.saw(0, 1, -1), 61);
        c.due("never", x.saw(1, 0, -1), 0);
        c.due("four", seen().saw(0, 1, -1), 4);
    }

    @Sentence(promise = 13, says = "-2: on no so many")
    static void onNoSoManyNights(Check c) {
        WindowLoans x = seen();
        c.due("a fifth", x.saw(0, 1, 4), -2);
        c.due("a high k", x.saw(0, 1, HIGHEST), -2);
        c.due("never", x.saw(1, 0, 0), -2);
        c.due("behind the last night", x.saw(1, 1, 61), -2);
        c.due("a night that isn't over", Check.told("house a;hole p a 1 sees a;pane u 1 in p;").saw(0, 0, 0), -2);
    }

    @Sentence(promise = 13, says = "NONE: no such ones")
    static void noSuchSights(Check c) {
        WindowLoans x = seen();
        for (int other : new int[] {LOWEST, -2, -1, 2, 3, 4, 5, HIGHEST}) {
            c.due("house " + other, x.saw(other, 1, 0), -1);
            c.due("garden " + other, x.saw(0, other, 0), -1);
            c.due("house " + other + ", how many", x.saw(other, 1, -1), -1);
            c.due("garden " + other + ", how many", x.saw(0, other, -1), -1);
        }
        c.due("k -2", x.saw(0, 1, -2), -1);
        c.due("the lowest k", x.saw(0, 1, LOWEST), -1);
    }

    @Sentence(promise = 13, says = "SIGHTS are kept")
    static void sightsOfAllHouses(Check c) {
        // each house sees the garden of the one behind it, the last one that of the first
        String houses = "house a;house b;house c;house d;house e;";
        for (int house = 0; house < 5; house++) {
            int garden = (house + 1) % 5;
            WindowLoans x = Check.told(houses + "hole p " + (char) ('a' + house) + " 1 sees " + (char) ('a' + garden)
                + ";pane u 1 in p;");
            x.nights(1);
            for (int k = 0; k < 25; k++) {
                c.due("saw(" + k / 5 + ", " + k % 5 + ", -1)", x.saw(k / 5, k % 5, -1),
                    k == house * 5 + garden ? 1 : 0);
            }
        }
        WindowLoans x = Check.told(houses + "hole p e 1 sees e;pane u 1 in p;");
        x.nights(61);
        c.due("the last one sees its own", x.saw(4, 4, -1), 61);
    }

    @Sentence(promise = 13, says = "SIGHTS are kept")
    static void sightsAreKept(Check c) {
        WindowLoans x = Check.told("house a;house b;hole p a 1 sees b;hole q a 1 sees b;pane u 1 in p;pane v 1 in q;");
        x.nights(1);
        c.due("by two holes, once a night", x.saw(0, 1, -1), 1);
        x.bird(0);
        x.bird(1);
        x.nights(1);
        c.due("they stay when nothing hangs", x.saw(0, 1, -1), 1);
        c.due("the night", x.saw(0, 1, 0), 0);
    }
}
