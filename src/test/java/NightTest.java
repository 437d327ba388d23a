/** Promises 11 to 13: nights, feasts, sights, and taxes as they are paid. */
public final class NightTest {
    private static final Check CHECK = new Check();

    public static void main(String[] args) {
        nights();
        feasts();
        sights();
        taxes();
        CHECK.end();
    }

    private static void nights() {
        WindowLoans x = new WindowLoans();
        CHECK.due("none", x.nights(0), 0);
        CHECK.due("below 0", x.nights(-1), -1);
        CHECK.due("62", x.nights(62), -1);
        CHECK.due("the highest number", x.nights(Integer.MAX_VALUE), -1);
        CHECK.due("none went by", x.count(5), 0);
        CHECK.due("all", x.nights(61), 61);
        CHECK.due("one more", x.nights(1), -1);
        CHECK.due("none more", x.nights(0), 61);
        x = new WindowLoans();
        CHECK.due("60", x.nights(60), 60);
        CHECK.due("beyond 61", x.nights(2), -1);
        CHECK.due("none of these went by", x.count(5), 60);
        CHECK.due("61", x.nights(1), 61);
    }

    private static void feasts() {
        WindowLoans x = Check.told("house a;house b;hole p a 1;hole q a 1;pane u 1 in p;pane v 1 in q;"
            + "feast 0 a 3;feast 0 a 2;feast 0 a 1;feast 60 b 0;feast 1 b 1;");
        CHECK.due("its night isn't over", x.feast(0), -2);
        x.nights(1);
        CHECK.due("more wanted than there is", x.feast(0), 0);
        CHECK.due("as much as there is", x.feast(1), 1);
        CHECK.due("less than there is", x.feast(2), 1);
        CHECK.due("on the last night", x.feast(3), -2);
        CHECK.due("on the next night", x.feast(4), -2);
        x.bird(0);
        CHECK.due("it was lit", x.feast(1), 1);
        x.nights(1);
        CHECK.due("no light", x.feast(4), 0);
        x.nights(58);
        CHECK.due("the last night isn't over", x.feast(3), -2);
        x.nights(1);
        CHECK.due("none wanted", x.feast(3), 1);
        CHECK.due("feast 5", x.feast(5), -1);
        CHECK.due("feast -1", x.feast(-1), -1);
    }

    private static void sights() {
        WindowLoans x = Check.told("house a;house b;house c;hole p a 1 sees b;hole q a 1 sees b;hole r b 1 sees a;"
            + "hole s b 1;hole t c 1 sees c;pane u 1 in p;pane v 1 in q;pane w 1 in t;carriers 9;");
        CHECK.due("no night went by", x.saw(0, 1, -1), 0);
        CHECK.due("none", x.saw(0, 1, 0), -2);
        x.nights(2);
        x.move(0, -1);
        x.nights(1);
        x.move(1, 2);
        x.nights(2);
        x.move(1, 1);
        x.nights(1);
        CHECK.due("how many", x.saw(0, 1, -1), 4);
        int[] want = {0, 1, 2, 5};
        for (int k = 0; k < 4; k++) {
            CHECK.due("saw(0, 1, " + k + ")", x.saw(0, 1, k), want[k]);
        }
        CHECK.due("no so many", x.saw(0, 1, 4), -2);
        CHECK.due("b saw a", x.saw(1, 0, -1), 2);
        CHECK.due("b saw a first", x.saw(1, 0, 0), 3);
        CHECK.due("a saw c", x.saw(0, 2, -1), 0);
        CHECK.due("c saw its own", x.saw(2, 2, -1), 6);
        CHECK.due("house 3", x.saw(3, 0, -1), -1);
        CHECK.due("garden 3", x.saw(0, 3, -1), -1);
        CHECK.due("house -1", x.saw(-1, 0, 0), -1);
        CHECK.due("garden -1", x.saw(0, -1, 0), -1);
        CHECK.due("k -2", x.saw(0, 1, -2), -1);
        CHECK.due("a high k", x.saw(0, 1, Integer.MAX_VALUE), -2);
        x.nights(55);
        CHECK.due("the last night", x.saw(0, 1, 58), 60);
        CHECK.due("behind the last night", x.saw(0, 1, 59), -2);
    }

    private static void taxes() {
        WindowLoans x = Check.told("house a;house b;hole p a 1;hole q b 2;pane u 1 in p;pane v 2 in q;"
            + "tax 1;tax 60;tax 3;law due panes * 10 + size + night * 100;carriers 9;");
        x.nights(1);
        CHECK.due("no tax yet", x.count(10), 0);
        x.nights(1);
        CHECK.due("a paid", x.house(0, 2), 111);
        CHECK.due("b paid", x.house(1, 2), 112);
        x.move(0, -1);
        x.nights(2);
        CHECK.due("a paid without panes", x.house(0, 2), 411);
        CHECK.due("b paid", x.house(1, 2), 424);
        x.nights(57);
        CHECK.due("a paid on the last night", x.house(0, 2), 6411);
        CHECK.due("b paid on the last night", x.house(1, 2), 6436);
        CHECK.due("all", x.count(10), 12847);
    }
}
