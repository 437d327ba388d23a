/** Boundary cases of promises 1, 2, 3 and 5: a new object, feed, text, named. */
final class TextEdges {
    /** Something of all that a text tells, with one pane that hangs and one in store. */
    private static final String TERRACE = "house a;house b;hole p a 1 sees b;hole q b 1;pane u 1 in p;pane v 2;"
        + "frame 2 1;feast 0 a 1;feast 9 b 1;tax 0;carriers 3;seed 5;law due 7;";
    private static final int BLANKS = 0x20202020;

    private TextEdges() {
    }

    private static int feedBlanks(WindowLoans x) {
        return x.feed(BLANKS, BLANKS, BLANKS, BLANKS, BLANKS);
    }

    /** A terrace on which a night went by, with a complaint, an image and a move to undo. */
    private static WindowLoans used() {
        WindowLoans x = Check.told(TERRACE);
        x.nights(1);
        x.light(0, 1);
        x.known(0);
        x.keep();
        x.move(0, -1);
        return x;
    }

    // ---- promise 1

    @Sentence(promise = 1, says = "A TEXT without LINES")
    static void newObjectHasNoLines(Check c) {
        WindowLoans x = new WindowLoans();
        for (int what = 0; what <= 11; what++) {
            c.due("count(" + what + ")", x.count(what), 0);
        }
        c.due("fault(0)", x.fault(0), 0);
        c.due("fault(1)", x.fault(1), -1);
        c.due("named", x.named(0, Check.letters("a")), -1);
        c.due("look", Check.look(x, 0, 0), Check.NO_PANE);
        c.due("hole", x.hole(0, 0), -1);
        c.due("house", x.house(0, 0), -1);
        c.due("feast", x.feast(0), -1);
        c.due("plan of none", x.plan(0), 0);
        c.due("plan of one", x.plan(1), -1);
        c.due("carriers of none", x.carriers(0), 0);
        c.due("least", x.least(0, 0, 0), 0);
        c.due("most", x.most(), 0);
        c.due("shutting", x.shutting(), 0);
        c.due("the one order of no panes", x.tales(), 1);
        c.due("undo", x.undo(), -1);
        c.due("back", x.back(), -1);
    }

    @Sentence(promise = 1, says = "an empty TAPE")
    static void newObjectHasAnEmptyTape(Check c) {
        c.due("text(1)", new WindowLoans().text(1), -2);
        c.due("text(0)", new WindowLoans().text(0), 0);
        c.due("the first feed", feedBlanks(new WindowLoans()), 20);
    }

    // ---- promise 2

    @Sentence(promise = 2, says = "Twenty bytes come behind the TAPE")
    static void bytesComeBehind(Check c) {
        WindowLoans x = new WindowLoans();
        c.due("the first twenty", x.feed(0x686f7573, 0x6520613b, 0x686f7573, 0x6520623b, 0x686f7573), 20);
        c.due("the next twenty", x.feed(0x6520633b, BLANKS, BLANKS, BLANKS, 0x0a0a0a0a), 40);
        c.due("three houses", x.text(40), 3);
        c.due("a", x.named(0, Check.letters("a")), 0);
        c.due("b", x.named(0, Check.letters("b")), 1);
        c.due("c", x.named(0, Check.letters("c")), 2);
    }

    @Sentence(promise = 2, says = "four of each number, the highest first")
    static void highestByteFirst(Check c) {
        WindowLoans x = new WindowLoans();
        // "house abcdef;tax 60;"
        x.feed(0x686f7573, 0x65206162, 0x63646566, 0x3b746178, 0x2036303b);
        c.due("two lines", x.text(20), 2);
        c.due("its name", x.named(0, Check.letters("abcdef")), 0);
        // a number below 0 has a highest byte above 127: no token
        x.feed(0x686f7573, 0x6520613b, 0xe9202020, BLANKS, BLANKS);
        c.due("a byte above 127", x.text(20), -1);
        c.due("its place", x.fault(1), 8);
    }

    @Sentence(promise = 2, says = "NONE, and none come, if it would have more than 700")
    static void noMoreThan700(Check c) {
        WindowLoans x = new WindowLoans();
        for (int k = 1; k <= 34; k++) {
            c.due("feed " + k, feedBlanks(x), 20 * k);
        }
        c.due("just 700", x.feed(BLANKS, BLANKS, BLANKS, 0x686f7573, 0x6520613b), 700);
        c.due("more", x.feed(0, 0, 0, 0, 0), -1);
        c.due("again", x.feed(0, 0, 0, 0, 0), -1);
        c.due("it has 700, not more", x.text(701), -2);
        c.due("nothing of these came", x.text(700), 1);
        c.due("there is room again", feedBlanks(x), 20);
    }

    // ---- promise 3

    @Sentence(promise = 3, says = "The TAPE's first n bytes")
    static void onlyTheFirstBytes(Check c) {
        WindowLoans x = new WindowLoans();
        c.due("one of two lines", Check.tell(x, "house a;house b;", 8), 1);
        c.due("a", x.named(0, Check.letters("a")), 0);
        c.due("b", x.named(0, Check.letters("b")), -1);
        c.due("a wrong byte behind them", Check.tell(x, "house a;!", 8), 1);
        c.due("a name that goes on behind them", Check.tell(x, "house ab;", 7), -1);
        c.due("its place", x.fault(1), 7);
        c.due("a number that goes on behind them", Check.tell(x, "tax 12;", 5), -1);
        c.due("its place", x.fault(1), 5);
        c.due("a sign that goes on behind them", Check.tell(x, "law due 1<=2;", 10), -1);
        c.due("its place", x.fault(1), 10);
        c.due("all of them", Check.tell(x, "house abcdef;tax 60;", 20), 2);
    }

    @Sentence(promise = 3, says = "(it is empty then)")
    static void tapeIsEmptyThen(Check c) {
        WindowLoans x = new WindowLoans();
        c.due("a part", Check.tell(x, "house a;house b;", 8), 1);
        c.due("the rest is gone", x.text(1), -2);
        feedBlanks(x);
        c.due("none of twenty", x.text(0), 0);
        c.due("these are gone too", x.text(1), -2);
        c.due("a fault", Check.tell(x, "house", 5), -1);
        c.due("gone with a fault too", x.text(1), -2);
        c.due("fed anew", feedBlanks(x), 20);
    }

    @Sentence(promise = 3, says = "NIGHT 0 is next")
    static void nightNoughtIsNext(Check c) {
        WindowLoans x = used();
        c.due("ahead", x.count(5), 1);
        Check.tell(x, TERRACE);
        c.due("which is next", x.count(5), 0);
        c.due("nothing is paid", x.count(10), 0);
        c.due("no sights", x.saw(0, 1, -1), 0);
        c.due("the feast is ahead again", x.feast(0), -2);
        c.due("no moves tonight", x.count(11), 0);
        c.due("it hangs as told", x.look(0, 0), 0);
        x.nights(61);
        Check.tell(x, TERRACE);
        c.due("behind the last night too", x.nights(0), 0);
        x.bird(0);
        x.nights(1);
        c.due("a feast that was lit of the text ahead", x.feast(0), 0);
    }

    @Sentence(promise = 3, says = "no COMPLAINTS")
    static void noComplaintsThen(Check c) {
        WindowLoans x = used();
        x.known(-1);
        x.light(0, 6);
        c.due("ahead", x.tales(), 0);
        Check.tell(x, TERRACE);
        c.due("how many", x.count(6), 0);
        c.due("all orders are tales", x.tales(), 7);
        c.due("none to strike", x.strike(0), -1);
        c.due("numbered from 0 on", x.light(0, 0), 0);
    }

    @Sentence(promise = 3, says = "all KNOWN")
    static void allKnownThen(Check c) {
        WindowLoans x = used();
        c.due("ahead", x.count(7), 0);
        Check.tell(x, TERRACE);
        x.light(0, 6);
        c.due("those to come are known", x.count(7), 1);
        c.due("so there are no tales", x.tales(), 0);
    }

    @Sentence(promise = 3, says = "no IMAGE")
    static void noImageThen(Check c) {
        WindowLoans x = used();
        c.due("ahead", x.back(), 1);
        Check.tell(x, TERRACE);
        c.due("back", x.back(), -1);
        x = used();
        x.text(0);
        c.due("back, behind a text without lines", x.back(), -1);
    }

    @Sentence(promise = 3, says = "nothing to undo then")
    static void nothingToUndoThen(Check c) {
        WindowLoans x = used();
        c.due("ahead", x.count(8), 1);
        Check.tell(x, TERRACE);
        c.due("count", x.count(8), 0);
        c.due("undo", x.undo(), -1);
    }

    @Sentence(promise = 3, says = "how many LINES")
    static void howManyLines(Check c) {
        WindowLoans x = new WindowLoans();
        c.due("none", x.text(0), 0);
        c.due("of blanks", Check.tell(x, " \n \n"), 0);
        c.due("all kinds", Check.tell(x, TERRACE), 13);
        c.due("blanks ahead and behind", Check.tell(x, "\n house a ; \n"), 1);
        // 5 houses, 6 holes, 4 panes, 4 frames, 5 feasts, 4 taxes, carriers, seed, 3 laws
        c.due("as many as there can be", Check.tell(x, FaultEdges.FULL), 33);
    }

    @Sentence(promise = 3, says = "NONE with a FAULT, all stays")
    static void allStaysWithAFault(Check c) {
        WindowLoans x = used();
        c.due("a fault", Check.tell(x, "house c;carriers 1;seed 6;law due 8;hole r c 2;pane w 2 in r;;"), -1);
        int[] counts = {2, 2, 2, 2, 1, 1, 1, 0, 1, 0, 14, 1};
        for (int what = 0; what < counts.length; what++) {
            c.due("count(" + what + ")", x.count(what), counts[what]);
        }
        c.due("names", x.named(0, Check.letters("b")), 1);
        c.due("no new names", x.named(0, Check.letters("c")), -1);
        c.due("u in store", x.look(0, 0), -1);
        c.due("frames", x.look(1, 2), 3);
        c.due("holes", x.hole(0, 2), 1);
        c.due("laws", x.law(0, 0, 0), 7);
        c.due("feasts", x.feast(0), 1);
        c.due("feasts ahead", x.feast(1), -2);
        c.due("sights", x.saw(0, 1, -1), 1);
        c.due("undo", x.undo(), 0);
        c.due("u hangs again", x.look(0, 0), 0);
        c.due("the image", x.back(), 1);
        c.due("carriers", x.move(0, -1) + x.move(0, 0) + x.move(0, -1), 3);
        c.due("no carrier more", x.move(0, 0), -2);
        c.due("taxes of night 0 alone", x.nights(1) + x.count(10), 16);
    }

    @Sentence(promise = 3, says = "NONE with a FAULT, all stays")
    static void numbersDrawnStayWithAFault(Check c) {
        String text = "house a;hole p a 1;hole q a 1;pane u 1;carriers 9;law snap 50;";
        WindowLoans x = Check.told(text);
        // by the seed 0 the first number is 0, the second one 68
        c.due("0 is below 50", x.move(0, 0), 0);
        x.undo();
        c.due("a fault", Check.tell(x, text + "seed"), -1);
        c.due("68 comes next", x.move(0, 0), 1);
        Check.tell(x, text);
        c.due("a whole text begins with its seed", x.move(0, 0), 0);
    }

    @Sentence(promise = 3, says = "-2, and the TAPE stays: there are not so many")
    static void notSoManyBytes(Check c) {
        WindowLoans x = used();
        x.feed(0x686f7573, 0x6520613b, BLANKS, BLANKS, BLANKS);
        c.due("one more", x.text(21), -2);
        c.due("far more", x.text(Integer.MAX_VALUE), -2);
        c.due("all stays", x.count(0), 2);
        c.due("the image stays", x.back(), 1);
        c.due("the tape stays", feedBlanks(x), 40);
        c.due("just so many", x.text(40), 1);
    }

    @Sentence(promise = 3, says = "n is below 0")
    static void fewerThanNoBytes(Check c) {
        WindowLoans x = new WindowLoans();
        x.feed(0x686f7573, 0x6520613b, BLANKS, BLANKS, BLANKS);
        c.due("text(-1)", x.text(-1), -2);
        c.due("the lowest number", x.text(Integer.MIN_VALUE), -2);
        c.due("the tape stays", x.text(20), 1);
    }

    @Sentence(promise = 3, says = "are the TEXT")
    static void nothingOfTheTextAheadLingers(Check c) {
        WindowLoans x = Check.told("house a;hole p a 1;hole q a 1;pane u 1;pane v 1;");
        c.due("orders of two panes", x.tales(), 7);
        c.due("two hang", x.most(), 2);
        Check.tell(x, "house a;hole p a 1;pane u 1;");
        c.due("orders of one", x.tales(), 2);
        c.due("one hangs", x.most(), 1);
        Check.tell(x, "house a;hole p a 1;pane u 2;");
        c.due("orders of one that doesn't fit", x.tales(), 1);
        // a law of 64 knots, again and again
        for (int k = 0; k < 4; k++) {
            Check.tell(x, "house a;law due " + "1+".repeat(31) + "1;law harm 1;");
            c.due("its law", x.law(0, 0, 0), 32);
            c.due("its knots", x.count(4), 64);
        }
    }

    @Sentence(promise = 3, says = "NONE with a FAULT, all stays")
    static void nothingOfAFaultLingers(Check c) {
        WindowLoans x = new WindowLoans();
        String[] faulty = {"law due ((((((((1 + not", "law due 1 < 2 + ", "carriers 1;seed 1;!", FaultEdges.FULL + "!"};
        for (String text : faulty) {
            c.due(text, Check.tell(x, text), -1);
            c.due("a whole text behind it", Check.tell(x, FaultEdges.FULL), 33);
            c.due("its knots", x.count(4), 64);
            c.due("its law", x.law(0, 0, 0), 9999);
        }
    }

    @Sentence(promise = 3, says = "(in STORE without)")
    static void inStoreWithout(Check c) {
        WindowLoans x = Check.told("house a;hole p a 1;pane u 1;pane v 1 in p;");
        c.due("u", x.look(0, 0), -1);
        c.due("v", x.look(1, 0), 0);
    }

    @Sentence(promise = 3, says = "carriers: 0 .. 9 (2 without)")
    static void twoCarriersWithout(Check c) {
        WindowLoans x = Check.told("house a;hole p a 1;pane u 1;");
        c.due("two moves", x.move(0, 0) + x.move(0, -1), 2);
        c.due("a third one", x.move(0, 0), -2);
        Check.tell(x, "house a;hole p a 1;pane u 1;carriers 0;");
        c.due("with 0", x.move(0, 0), -2);
        Check.tell(x, "house a;hole p a 1;pane u 1;carriers 9;");
        for (int k = 0; k < 9; k++) {
            c.due("with 9, move " + k, x.move(0, k % 2 == 0 ? 0 : -1), 1);
        }
        c.due("with 9, a tenth one", x.move(0, -1), -2);
        Check.tell(x, "house a;hole p a 1;pane u 1;");
        c.due("two again: nothing of the text ahead stays", x.move(0, 0) + x.move(0, -1), 2);
        c.due("a third one", x.move(0, 0), -2);
    }

    @Sentence(promise = 3, says = "seed: 0 .. 99999 (0)")
    static void seedNoughtWithout(Check c) {
        for (String seed : new String[] {"", "seed 0;", "seed 1;", "seed 00099999;"}) {
            long from = seed.isEmpty() ? 0 : Long.parseLong(seed.substring(5, seed.length() - 1));
            int number = Check.numberBehind(from) % 100;
            String text = "house a;hole p a 1;pane u 1;" + seed + "law snap ";
            c.due("seed '" + seed + "', breaks", Check.told(text + (number + 1) + ";").move(0, 0), 0);
            c.due("seed '" + seed + "', holds", Check.told(text + number + ";").move(0, 0), 1);
        }
        WindowLoans x = Check.told("seed 1;");
        int number = Check.numberBehind(0) % 100;
        Check.tell(x, "house a;hole p a 1;pane u 1;law snap " + (number + 1) + ";");
        c.due("the seed of the text ahead does not stay", x.move(0, 0), 0);
    }

    @Sentence(promise = 3, says = "All numbered as they come")
    static void numberedAsTheyCome(Check c) {
        WindowLoans x = Check.told("house b;hole z b 1;house a;hole y a 2;pane y 3;feast 4 a 0;pane x 4;feast 2 b 0;");
        c.due("house b", x.named(0, Check.letters("b")), 0);
        c.due("house a", x.named(0, Check.letters("a")), 1);
        c.due("hole y", x.hole(1, 1), 2);
        c.due("pane x", x.look(1, 1), 4);
        x.nights(3);
        c.due("the feast told first", x.feast(0), -2);
        c.due("the feast told next", x.feast(1), 1);
    }

    // ---- promise 5

    @Sentence(promise = 5, says = "HOUSES, HOLES, PANES have names of their kind")
    static void namesOfTheirKind(Check c) {
        WindowLoans x = Check.told("house a;house c;hole b c 1;hole c a 1;pane d 1;pane e 1;pane c 1;");
        c.due("house c", x.named(0, Check.letters("c")), 1);
        c.due("hole c", x.named(1, Check.letters("c")), 1);
        c.due("pane c", x.named(2, Check.letters("c")), 2);
        c.due("house b", x.named(0, Check.letters("b")), -1);
        c.due("hole d", x.named(1, Check.letters("d")), -1);
        c.due("pane a", x.named(2, Check.letters("a")), -1);
    }

    @Sentence(promise = 5, says = "5 bits each (a is 1; the first one highest of six, 0 behind the last one)")
    static void lettersAsBits(Check c) {
        WindowLoans x = Check.told("house a;house z;house az;house abcdef;house zzzzzz;");
        c.due("a", x.named(0, 1 << 25), 0);
        c.due("z", x.named(0, 26 << 25), 1);
        c.due("az", x.named(0, 1 << 25 | 26 << 20), 2);
        c.due("abcdef", x.named(0, 1 << 25 | 2 << 20 | 3 << 15 | 4 << 10 | 5 << 5 | 6), 3);
        c.due("zzzzzz", x.named(0, 26 * 0x2108421), 4);
        c.due("a at the lowest place", x.named(0, 1), -1);
        c.due("a with a letter behind a gap", x.named(0, 1 << 25 | 1 << 15), -1);
    }

    @Sentence(promise = 5, says = "NONE: there is none such")
    static void noneSuch(Check c) {
        WindowLoans x = Check.told("house a;house abcdef;hole a a 1;pane a 1;");
        int a = Check.letters("a");
        c.due("another name", x.named(0, Check.letters("b")), -1);
        c.due("no letters", x.named(0, 0), -1);
        c.due("a part of a name", x.named(0, Check.letters("abcde")), -1);
        c.due("a bit above six letters", x.named(0, a | 1 << 30), -1);
        c.due("below 0", x.named(0, a | 1 << 31), -1);
        c.due("all bits", x.named(0, -1), -1);
        c.due("what 3", x.named(3, a), -1);
        c.due("what -1", x.named(-1, a), -1);
        c.due("what 2", x.named(2, a), 0);
        x.text(0);
        c.due("a name of the text ahead", x.named(0, a), -1);
    }
}
