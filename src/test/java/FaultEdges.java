/** Boundary cases of promise 4, fault, and of the language that a text is told in (promise 3). */
final class FaultEdges {
    /** As much of everything as there can be, and each number at one of its bounds. */
    static final String FULL = "house a;house b;house c;house d;house abcdef;"
        + "hole p a 1 sees a;hole q a 9 sees abcdef;hole r b 1;hole s c 9;hole t d 1;hole zzzzzz abcdef 9;"
        + "frame 1 9;frame 9 1;frame 1 1;frame 9 9;"
        + "pane u 9 in p;pane v 1 in q;pane w 1 in r;pane z 9;"
        + "feast 0 a 0;feast 60 a 6;feast 60 abcdef 6;feast 0 b 6;feast 0 b 6;tax 0;tax 60;tax 1;tax 59;"
        + "carriers 9;seed 99999;"
        + "law due ((((((((0))))))))+9999;law snap not not 1 and not 0 or panes;"
        + "law harm " + sum(27) + ";";
    private static final String[] WORDS = {"house", "hole", "sees", "pane", "in", "frame", "feast", "tax",
        "carriers", "seed", "law", "due", "snap", "harm", "or", "and", "not", "panes", "size", "place", "far",
        "night"};

    private FaultEdges() {
    }

    /** A formula of so many numbers, and one sign less: 2 n - 1 KNOTS. */
    private static String sum(int numbers) {
        return "1+".repeat(numbers - 1) + "1";
    }

    /** Tells the text without its '^', and asks for this FAULT where that stood. */
    private static void fault(Check c, int number, String text) {
        WindowLoans x = new WindowLoans();
        c.due(text, Check.tell(x, text.replace("^", "")), -1);
        c.due(text + " fault", x.fault(0), number);
        c.due(text + " place", x.fault(1), text.indexOf('^'));
    }

    private static void whole(Check c, int lines, String text) {
        WindowLoans x = new WindowLoans();
        c.due(text, Check.tell(x, text), lines);
        c.due(text + " fault", x.fault(0), 0);
        c.due(text + " place", x.fault(1), -1);
    }

    // ---- promise 4

    @Sentence(promise = 4, says = "Of the latest text() that was not -2")
    static void ofTheLatestText(Check c) {
        WindowLoans x = new WindowLoans();
        Check.tell(x, "house a;house a;");
        c.due("the fault", x.fault(0), 3);
        c.due("its place", x.fault(1), 14);
        c.due("-2", x.text(1), -2);
        c.due("-2 below 0", x.text(-1), -2);
        c.due("the fault stays", x.fault(0), 3);
        c.due("its place stays", x.fault(1), 14);
        Check.tell(x, "pane u 0;");
        c.due("the next fault", x.fault(0), 2);
        c.due("its place", x.fault(1), 7);
        x.text(0);
        c.due("of a text without a fault", x.fault(0), 0);
        c.due("no place", x.fault(1), -1);
        x.text(1);
        c.due("-2 behind it", x.fault(0), 0);
    }

    @Sentence(promise = 4, says = "its FAULT (0), 1: its place (NONE without)")
    static void noFault(Check c) {
        WindowLoans x = Check.told("house a;");
        c.due("fault(0)", x.fault(0), 0);
        c.due("fault(1)", x.fault(1), -1);
        Check.tell(x, "!");
        c.due("a place of 0", x.fault(1), 0);
    }

    @Sentence(promise = 4, says = "NONE for another what")
    static void anotherWhat(Check c) {
        WindowLoans x = new WindowLoans();
        Check.tell(x, "house a;!");
        c.due("fault(0)", x.fault(0), 1);
        c.due("fault(1)", x.fault(1), 8);
        c.due("fault(2)", x.fault(2), -1);
        c.due("fault(-1)", x.fault(-1), -1);
        c.due("the highest what", x.fault(Integer.MAX_VALUE), -1);
        c.due("the lowest what", x.fault(Integer.MIN_VALUE), -1);
    }

    @Sentence(promise = 4, says = "FAULTS, the first along the text")
    static void firstAlongTheText(Check c) {
        fault(c, 3, "house a;house ^a;!");
        fault(c, 1, "house a;^!house a;");
        fault(c, 2, "pane u ^0 in p;!");
        fault(c, 4, "pane u 1 in ^p !");
        fault(c, 5, "house a;hole p a 3;pane u 2 in ^p !");
        fault(c, 3, "house a;house b;house c;house d;house ^a;house e;house f;");
        fault(c, 4, "feast 60 ^a 7;");
        fault(c, 2, "feast ^61 a 7;");
        fault(c, 3, "carriers 1;^carriers 10;");
        fault(c, 3, "law due 1;law ^due 10000;");
    }

    @Sentence(promise = 4, says = "(of one place the least)")
    static void leastOfOnePlace(Check c) {
        // a word that can't stand there and names nothing, that can't stand there and is a 65th knot
        fault(c, 1, "hole p ^house 1;");
        fault(c, 1, "pane u 1 in ^in;");
        fault(c, 1, "law due " + sum(32) + "+^or;");
        fault(c, 1, "law due " + sum(32) + ";law harm 1 ^1;");
        fault(c, 1, "law due 1 ^10000;");
        fault(c, 1, "law due ((((((((1 ^(1;");
        // a number beyond what is said of a frame that would be told already is no such frame
        fault(c, 2, "frame 1 1;frame 1 ^10;");
        fault(c, 4, "house a;hole p a 1;pane u 2 in ^q;");
    }

    // ---- fault 1

    @Sentence(promise = 4, says = "1 a TOKEN that is none")
    static void noToken(Check c) {
        for (int b = 0; b < 256; b++) {
            boolean isSign = "^;()<>=+-*/ \n".indexOf(b) >= 0;
            if (!isSign && !(b >= 'a' && b <= 'z') && !(b >= '0' && b <= '9')) {
                fault(c, 1, "house a;^" + (char) b);
                fault(c, 1, "law due 1 ^" + (char) b + " 1;");
            }
        }
        fault(c, 1, "house ^A;");
        fault(c, 1, "^House a;");
        fault(c, 1, "house a^B;");
        fault(c, 1, "house a^_b;");
    }

    @Sentence(promise = 4, says = "(a word of more than 6 letters that isn't of the language, too)")
    static void longWords(Check c) {
        whole(c, 1, "house abcdef;");
        fault(c, 1, "house ^abcdefg;");
        fault(c, 1, "house ^carriers;");
        fault(c, 1, "^carrierss 1;");
        fault(c, 1, "house a;hole p ^abcdefg 1;");
        fault(c, 1, "house abcdef;hole p ^abcdefg 1;");
        whole(c, 1, "carriers 1;");
        whole(c, 1, "house carrie;");
    }

    @Sentence(promise = 4, says = "or can't stand there")
    static void cannotStandThere(Check c) {
        fault(c, 1, "^;");
        fault(c, 1, "house a;^;");
        fault(c, 1, "^a;");
        fault(c, 1, "^1;");
        fault(c, 1, "^in p;");
        fault(c, 1, "^due 1;");
        fault(c, 1, "house ^1;");
        fault(c, 1, "house a ^b;");
        fault(c, 1, "house a ^house b;");
        fault(c, 1, "house a;hole p ^1;");
        fault(c, 1, "house a;hole p a^;");
        fault(c, 1, "house a;hole p a ^b;");
        fault(c, 1, "house a;hole p a 1 ^in a;");
        fault(c, 1, "house a;hole p a 1 sees^;");
        fault(c, 1, "house a;hole p a 1 sees a ^sees a;");
        fault(c, 1, "pane ^1;");
        fault(c, 1, "pane u^;");
        fault(c, 1, "pane u 1 ^sees p;");
        fault(c, 1, "pane u 1 in ^1;");
        fault(c, 1, "frame ^a;");
        fault(c, 1, "frame 1^;");
        fault(c, 1, "frame 1 1 ^1;");
        fault(c, 1, "feast ^a;");
        fault(c, 1, "house a;feast 1 ^1;");
        fault(c, 1, "house a;feast 1 a^;");
        fault(c, 1, "tax ^-1;");
        fault(c, 1, "tax^;");
        fault(c, 1, "carriers ^a;");
        fault(c, 1, "seed ^;");
        fault(c, 1, "law ^1;");
        fault(c, 1, "law ^far 1;");
        fault(c, 1, "law due^;");
        fault(c, 1, "law due ^+ 1;");
        fault(c, 1, "law due 1 +^;");
        fault(c, 1, "law due 1 ^2;");
        fault(c, 1, "law due ^house;");
        fault(c, 1, "law due ^a;");
        fault(c, 1, "law due 1 ^not 1;");
        fault(c, 1, "law due 1 + ^not 1;");
        fault(c, 1, "law due 1 < ^not 1;");
        fault(c, 1, "law due (^);");
        fault(c, 1, "law due (1^;");
        fault(c, 1, "law due 1^);");
        fault(c, 1, "law due (1)^);");
        fault(c, 1, "law due 1 ^a 1;");
        fault(c, 1, "law due 1 ^(1);");
        for (String word : WORDS) {
            if (!word.equals("or") && !word.equals("and")) {
                fault(c, 1, "law due 1 ^" + word + " 1;");
            }
            fault(c, 1, "house a ^" + word + ";");
        }
    }

    @Sentence(promise = 4, says = "(the length, if more must come)")
    static void moreMustCome(Check c) {
        String[] parts = {"house", "house a", "house a;hole p", "house a;hole p a", "house a;hole p a 1",
            "house a;hole p a 1 sees", "house a;hole p a 1 sees a", "pane", "pane u", "pane u 1", "pane u 1 in",
            "frame", "frame 1", "frame 1 1", "feast", "feast 1", "house a;feast 1 a", "house a;feast 1 a 1", "tax",
            "tax 1", "carriers", "carriers 1", "seed", "seed 1", "law", "law due", "law due 1", "law due 1 +",
            "law due not", "law due (", "law due (1", "law due (1)", "law due 1 and", "law due 1 <"};
        for (String part : parts) {
            fault(c, 1, part + "^");
            fault(c, 1, part + " \n ^");
            WindowLoans x = new WindowLoans();
            c.due(part + " behind which the tape goes on", Check.tell(x, part + " ;house", part.length()), -1);
            c.due(part + " the length of the text", x.fault(1), part.length());
        }
        whole(c, 0, " \n ");
    }

    @Sentence(promise = 3, says = "Words: small letters in a row; W: one of 1 .. 6 letters, none of those of the language")
    static void namesAreNoWordsOfTheLanguage(Check c) {
        for (String word : WORDS) {
            fault(c, 1, "house ^" + word + ";");
            fault(c, 1, "house a;hole ^" + word + " a 1;");
            fault(c, 1, "pane ^" + word + " 1;");
        }
        String[] near = {"houses", "hol", "see", "ins", "i", "o", "ors", "an", "no", "nots", "fare", "nights", "dues"};
        for (String word : near) {
            whole(c, 1, "house " + word + ";");
        }
        whole(c, 1, "house z;");
        whole(c, 1, "house zzzzzz;");
    }

    @Sentence(promise = 3, says = "N: digits")
    static void numbersAreDigits(Check c) {
        whole(c, 2, "tax 0;tax 0000000000000000000000060;");
        whole(c, 4, "house a;hole p a1sees a;feast0a2;tax07;");
        fault(c, 1, "tax ^-1;");
        fault(c, 1, "tax 1^.0;");
        fault(c, 1, "tax 1^a;");
        fault(c, 1, "tax 1 ^0;");
    }

    @Sentence(promise = 3, says = "Blanks 10, 32")
    static void blanks(Check c) {
        whole(c, 1, " \n\n  house\na\n;\n ");
        fault(c, 1, "house^\ta;");
        fault(c, 1, "house a;^\r");
        fault(c, 1, "house a;^\u000b");
        fault(c, 1, "house a;^\u00a0");
        fault(c, 1, "house a;^\0");
        fault(c, 1, "^housea;");
        fault(c, 1, "house a ^b;");
    }

    // ---- fault 2

    @Sentence(promise = 4, says = "2 too much (at it): a number beyond what is said")
    static void farBeyond(Check c) {
        fault(c, 2, "tax ^4294967296;");
        fault(c, 2, "tax ^18446744073709551616;");
        fault(c, 2, "tax ^00000000061;");
        fault(c, 2, "law due ^4294967297;");
        fault(c, 2, "law due ^99999999999999999999999999;");
        fault(c, 2, "seed ^1000000;");
        fault(c, 2, "seed ^4294967296;");
    }

    @Sentence(promise = 3, says = "HOUSES, at most 5")
    static void atMostFiveHouses(Check c) {
        whole(c, 5, "house a;house b;house c;house d;house e;");
        fault(c, 2, "house a;house b;house c;house d;house e;^house f;");
    }

    @Sentence(promise = 4, says = "a sixth house and so on (at the word of the LINE)")
    static void atTheWordOfTheLine(Check c) {
        whole(c, 33, FULL);
        String[] more = {"house e;", "hole x a 1;", "pane x 1;", "frame 1 2;", "feast 1 a 1;", "tax 2;"};
        for (String line : more) {
            fault(c, 2, FULL + "^" + line);
        }
        // at the word, though what is behind it is wrong too
        String[] wrong = {"house a;", "hole p zz 0;", "pane u 0;", "frame 0 0;", "feast 61 zz 7;", "tax 0;", "house",
            "hole;", "pane !", "frame a;", "feast;", "tax;"};
        for (String line : wrong) {
            fault(c, 2, FULL + "^" + line);
        }
    }

    @Sentence(promise = 3, says = "HOLES, at most 6")
    static void atMostSixHoles(Check c) {
        String six = "house a;hole a a 1;hole b a 1;hole c a 1;hole d a 1;hole e a 1;hole f a 1;";
        whole(c, 7, six);
        fault(c, 2, six + "^hole g a 1;");
    }

    @Sentence(promise = 3, says = "a HOUSE, the SIZE 1 .. 9, the HOUSE whose garden one sees by it")
    static void sizesOfHoles(Check c) {
        whole(c, 3, "house a;hole p a 1;hole q a 9 sees a;");
        fault(c, 2, "house a;hole p a ^0;");
        fault(c, 2, "house a;hole p a ^10;");
    }

    @Sentence(promise = 3, says = "PANES, at most 4: SIZE 1 .. 9")
    static void atMostFourPanes(Check c) {
        String four = "pane a 1;pane b 1;pane c 1;pane d 9;";
        whole(c, 4, four);
        fault(c, 2, four + "^pane e 1;");
        fault(c, 2, "pane u ^0;");
        fault(c, 2, "pane u ^10;");
    }

    @Sentence(promise = 3, says = "(a pane's SIZE, a hole's SIZE 1 .. 9; at most 4)")
    static void atMostFourFrames(Check c) {
        String four = "frame 1 1;frame 9 1;frame 1 9;frame 9 9;";
        whole(c, 4, four);
        fault(c, 2, four + "^frame 2 2;");
        fault(c, 2, "frame ^0 1;");
        fault(c, 2, "frame ^10 1;");
        fault(c, 2, "frame 1 ^0;");
        fault(c, 2, "frame 1 ^10;");
    }

    @Sentence(promise = 3, says = "FEASTS, at most 5: a NIGHT 0 .. 60, a HOUSE, how many panes it wants 0 .. 6")
    static void atMostFiveFeasts(Check c) {
        String five = "house a;feast 0 a 0;feast 60 a 6;feast 0 a 0;feast 0 a 0;feast 0 a 0;";
        whole(c, 6, five);
        fault(c, 2, five + "^feast 0 a 0;");
        fault(c, 2, "house a;feast ^61 a 0;");
        fault(c, 2, "house a;feast 0 a ^7;");
    }

    @Sentence(promise = 3, says = "TAXES, at most 4: NIGHTS 0 .. 60")
    static void atMostFourTaxes(Check c) {
        String four = "tax 0;tax 1;tax 59;tax 60;";
        whole(c, 4, four);
        fault(c, 2, four + "^tax 2;");
        fault(c, 2, "tax ^61;");
    }

    @Sentence(promise = 3, says = "carriers: 0 .. 9 (2 without)")
    static void numbersOfCarriers(Check c) {
        whole(c, 1, "carriers 0;");
        whole(c, 1, "carriers 9;");
        fault(c, 2, "carriers ^10;");
    }

    @Sentence(promise = 3, says = "seed: 0 .. 99999 (0)")
    static void seeds(Check c) {
        whole(c, 1, "seed 0;");
        whole(c, 1, "seed 99999;");
        fault(c, 2, "seed ^100000;");
    }

    @Sentence(promise = 3, says = "N of E 0 .. 9999")
    static void numbersOfFormulas(Check c) {
        whole(c, 3, "law due 0;law snap 9999;law harm 09999;");
        fault(c, 2, "law due ^10000;");
        fault(c, 2, "law due 1 + ^10000;");
    }

    @Sentence(promise = 4, says = "a ninth '(' open")
    static void ninthOpen(Check c) {
        whole(c, 1, "law due ((((((((1))))))));");
        fault(c, 2, "law due ((((((((^(1)))))))));");
        fault(c, 2, "law due 1 + ((((((((1 + ^(1)))))))));");
        whole(c, 1, "law due ((((((((1)))))))) + ((((((((1))))))));");
        whole(c, 1, "law due ((((((((1) + (2))))))));");
        whole(c, 1, "law due (1)+(1)+(1)+(1)+(1)+(1)+(1)+(1)+(1)+(1);");
        whole(c, 2, "law due ((((((((1))))))));law harm ((((((((1))))))));");
        fault(c, 2, "law due not (not (not (not (not (not (not (not (not ^(1)))))))));");
    }

    @Sentence(promise = 4, says = "a 65th KNOT of all E")
    static void sixtyFifthKnot(Check c) {
        whole(c, 2, "law due " + sum(32) + ";law harm 1;");
        fault(c, 2, "law due " + sum(32) + ";law harm 1;law snap ^1;");
        fault(c, 2, "law due " + sum(32) + ";law harm 1^+1;");
        fault(c, 2, "law due " + sum(32) + "+^1;");
        fault(c, 2, "law due " + sum(32) + "+^night;");
        fault(c, 2, "law due " + sum(32) + ";law harm not ^1;");
        fault(c, 2, "law due " + sum(32) + ";law harm 1 ^and 1;");
        fault(c, 2, "law due " + sum(32) + ";law harm 1 ^or 1;");
        fault(c, 2, "law due " + sum(32) + ";law harm 1 ^<= 1;");
        fault(c, 2, "law due " + "not ".repeat(64) + "^1;");
        fault(c, 2, "law due " + "not ".repeat(64) + "^not 1;");
        whole(c, 1, "law due " + "not ".repeat(63) + "1;");
    }

    @Sentence(promise = 4, says = "(N, NAMES, signs, not, and, or: one each)")
    static void knotsOneEach(Check c) {
        String[] laws = {"1", "night", "1 + 1", "1 - 1", "1 * 1", "1 / 1", "1 < 1", "1 <= 1", "1 = 1", "1 <> 1",
            "1 >= 1", "1 > 1", "1 and 1", "1 or 1", "not 1", "not not 1", "(1)", "((1)) + (1)"};
        int[] knots = {1, 1, 3, 3, 3, 3, 3, 3, 3, 3, 3, 3, 3, 3, 2, 3, 1, 3};
        for (int k = 0; k < laws.length; k++) {
            c.due(laws[k], Check.told("law due " + laws[k] + ";").count(4), knots[k]);
        }
        c.due("of all E", Check.told("law due 1;law snap 1 + 1;law harm not 1;").count(4), 6);
    }

    @Sentence(promise = 3, says = "A = (or > behind <) right behind < or > belongs to it")
    static void signsOfTwo(Check c) {
        whole(c, 3, "law due 1<=1;law snap 1>=1;law harm 1<>1;");
        fault(c, 1, "law due 1< ^=1;");
        fault(c, 1, "law due 1>\n^=1;");
        fault(c, 1, "law due 1< ^>1;");
        fault(c, 1, "law due 1>^<1;");
        fault(c, 1, "law due 1=^<1;");
        fault(c, 1, "law due 1=^>1;");
        fault(c, 1, "law due 1=^=1;");
        fault(c, 1, "law due 1<^<1;");
        fault(c, 1, "law due 1>^>1;");
        fault(c, 1, "law due 1<>^=1;");
        fault(c, 1, "law due 1<=^>1;");
        fault(c, 1, "law due 1>=^=1;");
    }

    @Sentence(promise = 3, says = "B: not B | C")
    static void whereNotMayStand(Check c) {
        whole(c, 1, "law due not 1;");
        whole(c, 1, "law due not not (not 1);");
        whole(c, 1, "law due 1 and not 1 or not not 1;");
        whole(c, 1, "law due 1 + (not 1);");
        whole(c, 1, "law due 1 < (not 1);");
        whole(c, 1, "law due 1 * ((not 1) + 1);");
        fault(c, 1, "law due (1 + ^not 1);");
        fault(c, 1, "law due 1 * ^not 1;");
        fault(c, 1, "law due (1) ^not 1;");
        fault(c, 1, "law due not ^;");
        fault(c, 1, "law due not ^and 1;");
    }

    @Sentence(promise = 3, says = "C: S [ ( < | <= | = | <> | >= | > ) S ]")
    static void oneComparison(Check c) {
        String[] signs = {"<", "<=", "=", "<>", ">=", ">"};
        for (String one : signs) {
            for (String other : signs) {
                fault(c, 1, "law due 1 " + one + " 2 ^" + other + " 3;");
            }
        }
        fault(c, 1, "law due 1 = 2 + 3 * 4 ^= 3;");
        fault(c, 1, "law due 1 and 1 < 2 ^> 3;");
        fault(c, 1, "law due (1) < (2) ^<> 3;");
        fault(c, 1, "law due (1 < 2 ^< 3);");
        whole(c, 1, "law due (1 < 2) < 3;");
        whole(c, 1, "law due 1 < (2 < 3);");
        whole(c, 1, "law due 1 < (2 < 3) and 1 < 2 or not 3 < 4;");
        whole(c, 1, "law due (1 < 2 and (3 < 4) = (5 > 6)) <> 1;");
        fault(c, 1, "law due (1 < 2) < (3 < 4) ^< 5;");
    }

    // ---- fault 3

    @Sentence(promise = 4, says = "3 told already: a name of its kind (at W)")
    static void nameToldAlready(Check c) {
        fault(c, 3, "house a;house b;house ^a;");
        fault(c, 3, "house a;hole p a 1;hole ^p a 1;");
        fault(c, 3, "pane u 1;pane ^u 1;");
        fault(c, 3, "house abcdef;house abcdeg;house ^abcdef;");
        whole(c, 4, "house a;house aa;house ab;house b;");
        whole(c, 3, "house a;hole a a 1;pane a 1 in a;");
    }

    @Sentence(promise = 4, says = "carriers, seed (at the word)")
    static void carriersAndSeedOnce(Check c) {
        fault(c, 3, "carriers 2;^carriers 2;");
        fault(c, 3, "carriers 0;^carriers;");
        fault(c, 3, "seed 0;^seed 0;");
        fault(c, 3, "seed 0;carriers 2;^seed x;");
        whole(c, 2, "seed 0;carriers 0;");
        WindowLoans x = Check.told("carriers 1;seed 1;");
        c.due("once in each text", Check.tell(x, "carriers 1;seed 1;"), 2);
    }

    @Sentence(promise = 4, says = "the same frame (at the second number)")
    static void frameToldAlready(Check c) {
        fault(c, 3, "frame 1 2;frame 1 ^2;");
        fault(c, 3, "frame 1 2;frame 2 1;frame 01 ^02;");
        fault(c, 3, "frame 5 5;frame 5 ^5;");
        whole(c, 4, "frame 1 2;frame 2 1;frame 1 1;frame 2 2;");
        whole(c, 2, "frame 1 9;frame 2 1;");
    }

    @Sentence(promise = 4, says = "a tax on the same NIGHT (at it)")
    static void taxToldAlready(Check c) {
        fault(c, 3, "tax 5;tax 6;tax ^5;");
        fault(c, 3, "tax 0;tax ^00;");
        whole(c, 3, "house a;feast 5 a 0;tax 5;");
    }

    @Sentence(promise = 4, says = "a law of its KIND (at KIND)")
    static void lawToldAlready(Check c) {
        fault(c, 3, "law due 1;law ^due 1;");
        fault(c, 3, "law snap 1;law due 1;law ^snap;");
        fault(c, 3, "law harm 1;law ^harm !;");
        whole(c, 3, "law harm 1;law snap 1;law due 1;");
    }

    // ---- faults 4 and 5

    @Sentence(promise = 4, says = "4 a HOUSE, HOLE that isn't told ahead (at W)")
    static void notToldAhead(Check c) {
        fault(c, 4, "hole p ^a 1;house a;");
        fault(c, 4, "house a;hole p ^b 1;house b;");
        fault(c, 4, "house a;hole p a 1 sees ^b;house b;");
        fault(c, 4, "house a;pane u 1 in ^p;hole p a 1;");
        fault(c, 4, "house p;pane u 1 in ^p;");
        fault(c, 4, "house a;hole b a 1;hole c ^b 1;");
        fault(c, 4, "feast 0 ^a 0;house a;");
        whole(c, 2, "house a;hole p a 1 sees a;");
    }

    @Sentence(promise = 4, says = "5 a HOLE that the pane doesn't FIT (by frames told ahead)")
    static void doesNotFit(Check c) {
        String hole = "house a;hole p a 3;";
        whole(c, 3, hole + "pane u 3 in p;");
        fault(c, 5, hole + "pane u 2 in ^p;");
        fault(c, 5, hole + "pane u 4 in ^p;");
        whole(c, 4, hole + "frame 2 3;pane u 2 in p;");
        fault(c, 5, hole + "frame 3 2;pane u 2 in ^p;");
        fault(c, 5, hole + "pane u 2 in ^p;frame 2 3;");
        whole(c, 4, "frame 2 3;" + hole + "pane u 2 in p;");
    }

    @Sentence(promise = 4, says = "or in which one hangs already (at W)")
    static void oneHangsAlready(Check c) {
        String hole = "house a;hole p a 3;hole q a 3;pane u 3 in p;";
        fault(c, 5, hole + "pane v 3 in ^p;");
        fault(c, 5, hole + "pane v 3;pane w 3 in ^p;");
        whole(c, 5, hole + "pane v 3 in q;");
        whole(c, 5, hole + "pane v 3;");
    }
}
