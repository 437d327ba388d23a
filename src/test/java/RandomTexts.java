import java.util.Random;

/** Makes texts by chance: whole ones, and ones with something wrong in them. */
final class RandomTexts {
    private static final String[] WORDS = {"house", "hole", "sees", "pane", "in", "frame", "feast", "tax",
        "carriers", "seed", "law", "due", "snap", "harm", "or", "and", "not", "panes", "size", "place",
        "far", "night", "a", "b", "p", "q", "zz", "abcdef", "abcdefg", "carrier", "1", "0", "7", "10", "61",
        "9999", "10000", "99999999999999999999", ";", "(", ")", "<", "<=", "=", "<>", ">=", ">", "+", "-",
        "*", "/", "!", "A", "\t", "\u00e9", "_", "<=>", "=>", "007"};
    private final Random random;

    RandomTexts(Random random) {
        this.random = random;
    }

    private boolean now(int oneOf) {
        return random.nextInt(oneOf) == 0;
    }

    /** A text that has no FAULT (but may be too long for the tape). */
    String whole() {
        StringBuilder text = new StringBuilder();
        int houses = 1 + random.nextInt(5);
        int holes = random.nextInt(7);
        int sizes = 1 + random.nextInt(3);
        int frames = random.nextInt(4);
        for (int h = 0; h < houses; h++) {
            line(text, "house " + (char) ('a' + h));
        }
        boolean[][] framed = new boolean[10][10];
        for (int k = 0; k < frames; k++) {
            int a = 1 + random.nextInt(sizes);
            int b = 1 + random.nextInt(sizes);
            if (!framed[a][b]) {
                framed[a][b] = true;
                line(text, "frame " + a + " " + b);
            }
        }
        int[] holeSizes = new int[6];
        for (int k = 0; k < holes; k++) {
            holeSizes[k] = 1 + random.nextInt(sizes);
            String sees = now(2) ? "" : " sees " + (char) ('a' + random.nextInt(houses));
            line(text, "hole h" + (char) ('a' + k) + " " + (char) ('a' + random.nextInt(houses)) + " "
                + holeSizes[k] + sees);
        }
        panes(text, sizes, holes, holeSizes, framed);
        int feasts = random.nextInt(6);
        for (int k = 0; k < feasts; k++) {
            line(text, "feast " + random.nextInt(now(3) ? 20 : 6) + " " + (char) ('a' + random.nextInt(houses))
                + " " + random.nextInt(now(4) ? 7 : 3));
        }
        for (int k = 0; k < random.nextInt(5); k++) {
            line(text, "tax " + (k * 3 + random.nextInt(3)));
        }
        if (!now(3)) {
            line(text, "carriers " + random.nextInt(now(3) ? 10 : 4));
        }
        if (now(2)) {
            line(text, "seed " + random.nextInt(100000));
        }
        int room = 60;
        for (String kind : new String[] {"due", "snap", "harm"}) {
            if (!now(3)) {
                int knots = 1 + random.nextInt(room / 3);
                String law = now(3) && kind.equals("snap") ? "" + random.nextInt(110) : formula(knots, 0);
                line(text, "law " + kind + " " + law);
            }
        }
        return text.toString();
    }

    private void panes(StringBuilder text, int sizes, int holes, int[] holeSizes, boolean[][] framed) {
        int panes = now(3) ? 4 : random.nextInt(5);
        boolean[] hung = new boolean[6];
        for (int k = 0; k < panes; k++) {
            int size = 1 + random.nextInt(sizes);
            int hole = random.nextInt(6);
            String in = "";
            if (hole < holes && !hung[hole] && (size == holeSizes[hole] || framed[size][holeSizes[hole]])) {
                hung[hole] = true;
                in = " in h" + (char) ('a' + hole);
            }
            line(text, "pane u" + (char) ('a' + k) + " " + size + in);
        }
    }

    private void line(StringBuilder text, String line) {
        text.append(line).append(now(5) ? " ;" : ";").append(now(6) ? "\n" : "");
    }

    /** A formula of about so many KNOTS. */
    String formula(int knots, int deep) {
        if (knots <= 1) {
            String[] leaves = {"panes", "size", "place", "far", "night", "" + random.nextInt(10),
                "" + random.nextInt(10000)};
            return leaves[random.nextInt(leaves.length)];
        }
        if (deep < 8 && now(5)) {
            return "(" + formula(knots, deep + 1) + ")";
        }
        String[] signs = {" or ", " and ", "<", "<=", "=", "<>", ">=", ">", "+", "-", "*", "/", "+", "*"};
        String sign = signs[random.nextInt(signs.length)];
        int left = 1 + random.nextInt(knots - 1);
        if (now(8) && deep < 8) {
            return "(not " + formula(knots - 1, deep + 1) + ")";
        }
        if (sign.length() > 3 || deep >= 8) {
            return (now(4) ? "not " : "") + small(left - 1, deep) + sign + small(knots - left, deep);
        }
        return small(left, deep) + sign + small(knots - left, deep);
    }

    /** A side of a sign: in parentheses, where there is room, so that any sign may stand inside. */
    private String small(int knots, int deep) {
        if (knots > 1 && deep < 8) {
            return "(" + formula(knots, deep + 1) + ")";
        }
        return formula(1, deep);
    }

    /** A formula that leans on what binds more tightly: few parentheses, perhaps wrong ones. */
    String flat(int knots) {
        String[] signs = {" or ", " and ", " < ", "<=", "=", "<>", ">=", ">", "+", "-", "*", "/", " and not ",
            " or not not "};
        StringBuilder text = new StringBuilder(now(4) ? "not " : "");
        int open = 0;
        for (int k = 0; k < knots; k++) {
            if (k > 0) {
                text.append(signs[random.nextInt(signs.length)]);
            }
            if (now(5) && open < 9) {
                text.append('(');
                open++;
            }
            text.append(formula(1, 0));
            if (open > 0 && now(3)) {
                text.append(')');
                open--;
            }
        }
        for (; open > 0; open--) {
            text.append(')');
        }
        return text.toString();
    }

    /** The text with a few things put in, taken out, put elsewhere or cut off. */
    String spoilt(String text) {
        String spoilt = text;
        for (int k = 1 + random.nextInt(2); k > 0; k--) {
            int length = spoilt.length();
            int from = length == 0 ? 0 : random.nextInt(length);
            int until = Math.min(length, from + random.nextInt(4));
            switch (random.nextInt(6)) {
                case 5 -> spoilt = spoilt + "pane zz " + random.nextInt(5) + " in h" + (char) ('a' + random.nextInt(6))
                    + ";";
                case 0 -> spoilt = spoilt.substring(0, from) + spoilt.substring(until);
                case 1 -> spoilt = spoilt.substring(0, from) + " " + WORDS[random.nextInt(WORDS.length)] + " "
                    + spoilt.substring(from);
                case 2 -> spoilt = spoilt.substring(0, from) + WORDS[random.nextInt(WORDS.length)]
                    + spoilt.substring(until);
                case 3 -> spoilt = spoilt.substring(0, from);
                default -> spoilt = repeatLine(spoilt);
            }
        }
        return spoilt;
    }

    private String repeatLine(String text) {
        String[] lines = text.split(";");
        return text + lines[random.nextInt(lines.length)] + ";";
    }
}
