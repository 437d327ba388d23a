/** Promises 1 to 5: a new object, feed, text, fault, named. */
public final class TextTest {
    private static final Check CHECK = new Check();

    public static void main(String[] args) {
        newObject();
        feeding();
        telling();
        names();
        badTokens();
        tooMuch();
        toldAlready();
        notTold();
        noFit();
        firstFault();
        formulas();
        CHECK.end();
    }

    private static void newObject() {
        WindowLoans x = new WindowLoans();
        for (int what = 0; what <= 11; what++) {
            CHECK.due("new: count(" + what + ")", x.count(what), 0);
        }
        CHECK.due("new: fault(0)", x.fault(0), 0);
        CHECK.due("new: fault(1)", x.fault(1), -1);
        CHECK.due("new: text(1)", x.text(1), -2);
        CHECK.due("new: text(0)", x.text(0), 0);
        CHECK.due("new: feed", x.feed(0, 0, 0, 0, 0), 20);
    }

    private static void feeding() {
        WindowLoans x = new WindowLoans();
        for (int k = 1; k <= 35; k++) {
            CHECK.due("feed " + k, x.feed(0x20202020, 0x20202020, 0x0a0a0a0a, 0x20202020, 0x20202020), 20 * k);
        }
        CHECK.due("feed 36", x.feed(0, 0, 0, 0, 0), -1);
        CHECK.due("text(701)", x.text(701), -2);
        CHECK.due("text(-1)", x.text(-1), -2);
        CHECK.due("text(MIN)", x.text(Integer.MIN_VALUE), -2);
        CHECK.due("feed still full", x.feed(0, 0, 0, 0, 0), -1);
        CHECK.due("700 blanks", x.text(700), 0);
        CHECK.due("the tape is empty then", x.text(1), -2);
        // "house a;" with the highest byte of a number first, twelve zero bytes behind it
        x.feed(0x686f7573, 0x6520613b, 0, 0, 0);
        CHECK.due("bytes in their order", x.text(8), 1);
        x.feed(0x686f7573, 0x6520613b, 0, 0, 0);
        CHECK.due("a zero byte is no token", x.text(9), -1);
        CHECK.due("its place", x.fault(1), 8);
    }

    private static void telling() {
        WindowLoans x = Check.told("house a;house b;hole p a 1;pane u 1 in p;tax 0;law due 7;");
        x.light(0, 1);
        x.known(0);
        x.keep();
        x.move(0, -1);
        CHECK.due("a fault", Check.tell(x, "house a;house a;"), -1);
        CHECK.due("its fault", x.fault(0) * 100 + x.fault(1), 314);
        CHECK.due("all stays: houses", x.count(0), 2);
        CHECK.due("all stays: complaints", x.count(6), 1);
        CHECK.due("all stays: known", x.count(7), 0);
        CHECK.due("all stays: undo", x.count(8), 1);
        CHECK.due("all stays: moves", x.count(11), 1);
        CHECK.due("all stays: knots", x.count(4), 1);
        CHECK.due("the tape does not stay", x.text(1), -2);
        CHECK.due("-2 leaves the fault", x.fault(0), 3);
        CHECK.due("all stays: image", x.back(), 0);
        x.nights(3);
        x.bird(0);
        CHECK.due("paid", x.count(10), 14);
        CHECK.due("a new text", Check.tell(x, "house c;\n hole p c 1;"), 2);
        CHECK.due("fault(0)", x.fault(0), 0);
        CHECK.due("fault(1)", x.fault(1), -1);
        CHECK.due("fault(2)", x.fault(2), -1);
        CHECK.due("fault(-1)", x.fault(-1), -1);
        int[] want = {1, 1, 0, 0, 0, 0, 0, 0, 0, 0, 0, 0};
        for (int what = 0; what < want.length; what++) {
            CHECK.due("a new text: count(" + what + ")", x.count(what), want[what]);
        }
        CHECK.due("no image then", x.back(), -1);
        CHECK.due("nothing to undo then", x.undo(), -1);
        x.light(0, 0);
        CHECK.due("all known then", x.count(7), 1);
        CHECK.due("an empty text", x.text(0), 0);
        CHECK.due("it has no houses", x.count(0), 0);
        CHECK.due("text of a part", Check.tell(x, "house a;house b;", 8), 1);
        CHECK.due("the rest is gone", x.text(1), -2);
        CHECK.due("no blanks needed", Check.tell(x, "housea", 6), -1);
        CHECK.due("between words and numbers", Check.tell(x, "house a;hole p a1sees a;feast0a2;tax07;"), 4);
        CHECK.due("other bytes are no blanks", Check.tell(x, "house\ta;"), -1);
        CHECK.due("place of it", x.fault(1), 5);
        CHECK.due("nor 13", Check.tell(x, "house a\r;"), -1);
        CHECK.due("nor 160", Check.tell(x, "\u00a0house a;"), -1);
        CHECK.due("a fault within parentheses", Check.tell(x, "law due ((1 + not"), -1);
        CHECK.due("leaves none open", Check.tell(x, "law due 1;law harm 2 * 3;"), 2);
    }

    private static void names() {
        WindowLoans x = Check.told("house a;house abcdef;house zz;hole a a 1;pane zz 1;pane z 1;");
        CHECK.due("house a", x.named(0, Check.letters("a")), 0);
        CHECK.due("house abcdef", x.named(0, Check.letters("abcdef")), 1);
        CHECK.due("house zz", x.named(0, Check.letters("zz")), 2);
        CHECK.due("house z", x.named(0, Check.letters("z")), -1);
        CHECK.due("house abcde", x.named(0, Check.letters("abcde")), -1);
        CHECK.due("hole a", x.named(1, Check.letters("a")), 0);
        CHECK.due("hole zz", x.named(1, Check.letters("zz")), -1);
        CHECK.due("pane zz", x.named(2, Check.letters("zz")), 0);
        CHECK.due("pane z", x.named(2, Check.letters("z")), 1);
        CHECK.due("low letters", x.named(0, 1), -1);
        CHECK.due("no letters", x.named(0, 0), -1);
        CHECK.due("more bits", x.named(0, Check.letters("a") | 1 << 30), -1);
        CHECK.due("below 0", x.named(0, Check.letters("a") | 1 << 31), -1);
        CHECK.due("what 3", x.named(3, Check.letters("a")), -1);
        CHECK.due("what -1", x.named(-1, Check.letters("a")), -1);
    }

    private static void fault(String text, int fault, int place) {
        WindowLoans x = new WindowLoans();
        CHECK.due("'" + text + "'", Check.tell(x, text), -1);
        CHECK.due("'" + text + "' fault", x.fault(0), fault);
        CHECK.due("'" + text + "' place", x.fault(1), place);
    }

    private static void whole(String text, int lines) {
        CHECK.due("'" + text + "'", Check.tell(new WindowLoans(), text), lines);
    }

    private static void badTokens() {
        fault(";", 1, 0);
        fault("house a", 1, 7);
        fault("house a  ", 1, 9);
        fault("house", 1, 5);
        fault("house ;", 1, 6);
        fault("house house;", 1, 6);
        fault("house panes;", 1, 6);
        fault("house abcdefg;", 1, 6);
        whole("house abcdef;", 1);
        fault("house carriers;", 1, 6);
        fault("house A;", 1, 6);
        fault("house a1;", 1, 7);
        fault("House a;", 1, 0);
        fault("house a;;", 1, 8);
        fault("house a;hole p a;", 1, 16);
        fault("house a;hole p a 1 in a;", 1, 19);
        fault("house a;hole p a 1 sees;", 1, 23);
        fault("pane u 1 in;", 1, 11);
        fault("frame 1;", 1, 7);
        fault("frame a 1;", 1, 6);
        fault("house a;feast 1 2;", 1, 16);
        fault("tax -1;", 1, 4);
        fault("carriers;", 1, 8);
        fault("seed a;", 1, 5);
        fault("law far 1;", 1, 4);
        fault("law due", 1, 7);
        fault("house a; !", 1, 9);
        fault("house \u00e9;", 1, 6);
    }

    private static void tooMuch() {
        String houses = "house a;house b;house c;house d;house e;";
        whole(houses, 5);
        fault(houses + "house a;", 2, 40);
        String holes = "house a;hole a a 1;hole b a 1;hole c a 1;hole d a 1;hole e a 1;hole f a 1;";
        whole(holes, 7);
        fault(holes + "hole;", 2, 74);
        String panes = "pane a 1;pane b 1;pane c 1;pane d 9;";
        whole(panes, 4);
        fault(panes + "pane a 1;", 2, 36);
        String frames = "frame 1 1;frame 1 2;frame 2 1;frame 9 9;";
        whole(frames, 4);
        whole("frame 1 9;frame 2 1;frame 9 1;frame 8 9;", 4);
        fault(frames + "frame 3 3;", 2, 40);
        String feasts = "house a;feast 0 a 0;feast 0 a 0;feast 60 a 6;feast 1 a 1;feast 2 a 1;";
        whole(feasts, 6);
        fault(feasts + "feast 2 a 1;", 2, 69);
        whole("tax 0;tax 1;tax 59;tax 60;", 4);
        fault("tax 0;tax 1;tax 59;tax 60;tax 1;", 2, 26);
        fault("house a;hole p a 0;", 2, 17);
        fault("pane u 10;", 2, 7);
        fault("frame 0 1;", 2, 6);
        fault("frame 1 0;", 2, 8);
        fault("frame 10 1;", 2, 6);
        whole("carriers 0;seed 99999;", 2);
        whole("carriers 009;", 1);
        fault("seed 00100000;", 2, 5);
        fault("tax 4294967296;", 2, 4);
        fault("tax 18446744073709551616;", 2, 4);
        fault("house a;feast 61 b 0;", 2, 14);
    }

    private static void toldAlready() {
        fault("house a;house b;house a;", 3, 22);
        whole("house a;hole a a 1;pane a 1;", 3);
        fault("house a;hole a a 1;hole a b 0;", 3, 24);
        fault("pane a 1;pane a 0;", 3, 14);
        fault("carriers 1;carriers x;", 3, 11);
        fault("seed 0;seed 0;", 3, 7);
        fault("frame 1 2;frame 2 1;frame 1 2;", 3, 28);
        fault("tax 5;tax 05;", 3, 10);
        fault("law snap 1;law due 1;law snap;", 3, 25);
        whole("law snap 1;law due 1;law harm 1;", 3);
    }

    private static void notTold() {
        fault("hole p a 1;house a;", 4, 7);
        fault("house a;hole p a 1 sees b;house b;", 4, 24);
        whole("house a;hole p a 1 sees a;", 2);
        fault("pane u 1 in p;", 4, 12);
        fault("house p;pane u 1 in p;", 4, 20);
        fault("feast 0 a 9;", 4, 8);
    }

    private static void noFit() {
        String hole = "house a;hole p a 3;";
        whole(hole + "pane u 3 in p;", 3);
        fault(hole + "pane u 2 in p;", 5, 31);
        fault(hole + "frame 3 2;pane u 2 in p;", 5, 41);
        whole(hole + "frame 2 3;pane u 2 in p;", 4);
        fault(hole + "pane u 2 in p;frame 2 3;", 5, 31);
        fault(hole + "pane u 3 in p;pane v 3 in p;", 5, 45);
        whole(hole + "pane u 3 in p;pane v 3;", 4);
    }

    private static void firstFault() {
        fault("house a;house a;!", 3, 14);
        fault("house a;!house a;", 1, 8);
        fault("pane u 0 in p !", 2, 7);
        fault("pane u 1 in p !", 4, 12);
        fault("house a;hole p a 3;pane u 2 in p !", 5, 31);
        fault("house a;hole p a 3;pane u 2 ! in p", 1, 28);
        fault("frame 0 0 !", 2, 6);
        cutOff("house ab", 7);
        cutOff("tax 12", 5);
        cutOff("law due 1<=1;", 10);
        cutOff("law due 1>=1;", 10);
    }

    /** Bytes behind the first n don't count, though a token would go on in them. */
    private static void cutOff(String text, int n) {
        WindowLoans x = new WindowLoans();
        CHECK.due("'" + text + "', " + n, Check.tell(x, text, n), -1);
        CHECK.due("'" + text + "', " + n + " fault", x.fault(0), 1);
        CHECK.due("'" + text + "', " + n + " place", x.fault(1), n);
    }

    private static void formulas() {
        fault("law due ;", 1, 8);
        fault("law due 1 2;", 1, 10);
        fault("law due 1 +;", 1, 11);
        fault("law due + 1;", 1, 8);
        fault("law due -1;", 1, 8);
        fault("law due 1 < 2 < 3;", 1, 14);
        fault("law due 1 = 2 + 3 = 3;", 1, 18);
        whole("law due (1 < 2) < 3;", 1);
        whole("law due 1 < (2 < 3);", 1);
        whole("law due 1 < 2 and 2 < 3 or not 3 < 4;", 1);
        whole("law due not not 1 < 2 and (not 3);", 1);
        fault("law due 1 + not 2;", 1, 12);
        fault("law due 1 < not 2;", 1, 12);
        fault("law due 1 not 2;", 1, 10);
        fault("law due 1 < = 2;", 1, 12);
        whole("law due 1<=2;", 1);
        fault("law due 1 > < 2;", 1, 12);
        fault("law due 1 >< 2;", 1, 11);
        fault("law due 1 =< 2;", 1, 11);
        fault("law due 1 <>= 2;", 1, 12);
        fault("law due (1;", 1, 10);
        fault("law due 1);", 1, 9);
        fault("law due ();", 1, 9);
        fault("law due (1", 1, 10);
        fault("law due 1", 1, 9);
        fault("law due a;", 1, 8);
        fault("law due house;", 1, 8);
        fault("law due panes size;", 1, 14);
        whole("law due 9999;", 1);
        fault("law due 10000;", 2, 8);
        fault("law due 1 10000;", 1, 10);
        whole("law due ((((((((1))))))));", 1);
        whole("law due ((((((((1)))))))) + ((((((((1))))))));", 1);
        fault("law due (((((((((1)))))))));", 2, 16);
        fault("law due ((((((((1(;", 1, 17);
        knots();
    }

    private static void knots() {
        StringBuilder sum = new StringBuilder("1");
        for (int k = 0; k < 31; k++) {
            sum.append("+1");
        }
        // 63 KNOTS: a number and 31 times a sign and a number
        WindowLoans x = Check.told("law due " + sum + ";law harm 1;");
        CHECK.due("64 knots", x.count(4), 64);
        fault("law due " + sum + ";law harm 1;law snap 1;", 2, 92);
        fault("law due " + sum + ";law harm 1+1;", 2, 82);
        fault("law due " + sum + "+1;", 2, 72);
        fault("law due " + sum + ";law harm 1 1;", 1, 83);
        fault("law due " + sum + ";law harm not 1;", 2, 85);
        fault("law due " + sum + ";law harm not (;", 1, 86);
        x = Check.told("law due not (panes and size) or (1 <> far) - night * 2 / place;");
        CHECK.due("parentheses are no knots", x.count(4), 14);
    }
}
