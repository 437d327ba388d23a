import java.util.Arrays;
import java.util.NoSuchElementException;

/**
 * Windows on loan: a terrace told as a text, panes moved and broken, nights that go by, and what
 * can be planned, paid, shut and told of it. README.md says how to use it.
 */
public final class WindowLoans {
    public static final int NONE = -1;

    private static final int MOST_BYTES = 700;
    private static final int MOST_HOUSES = 5;
    private static final int MOST_HOLES = 6;
    private static final int MOST_PANES = 4;
    private static final int MOST_FRAMES = 4;
    private static final int MOST_FEASTS = 5;
    private static final int MOST_TAXES = 4;
    private static final int MOST_COMPLAINTS = 24;
    private static final int MOST_TO_UNDO = 20;
    private static final int MOST_KNOTS = 64;
    private static final int MOST_OPEN = 8;
    private static final int MOST_CARRIERS = 9;
    private static final int MOST_MOVES_ASKED = 9;
    private static final int MOST_LIGHT_TOLD = 6;
    private static final int MOST_DRAWN = 20;
    private static final int DRAWS = 10;
    private static final int LARGEST_SIZE = 9;
    private static final int LAST_NIGHT = 60;
    private static final int HIGHEST_COST = 9999;
    private static final int USUAL_CARRIERS = 2;

    /** A pane's place beside a HOLE's number and NONE for the STORE. */
    private static final int BROKEN = -2;
    /** Answers of calls that use NONE for wrong arguments. */
    private static final int MISSING = -2;
    private static final int UNSETTLED = -3;

    private final byte[] tape = new byte[MOST_BYTES];
    private final Terrace terrace = new Terrace();
    private final TextReader reader = new TextReader(tape, terrace);
    /** Reads a text first, so that one with a FAULT never comes to the terrace. */
    private final TextReader proofReader = new TextReader(tape, new Terrace());
    private final Standing standing = new Standing(terrace);
    private final Standing image = new Standing(terrace);
    private final Orders orders = new Orders(terrace, standing);
    private final Planner planner = new Planner(terrace, standing, orders);
    private final Reckoner reckoner = new Reckoner(terrace, standing);
    private final Complaints complaints = new Complaints(terrace);
    private int fed = 0;
    private boolean imageKept = false;

    public WindowLoans() {
        standing.begin();
    }

    public int feed(int a, int b, int c, int d, int e) {
        if (fed + 20 > MOST_BYTES) {
            return NONE;
        }
        putBytes(a);
        putBytes(b);
        putBytes(c);
        putBytes(d);
        putBytes(e);
        return fed;
    }

    private void putBytes(int four) {
        for (int shift = 24; shift >= 0 && fed < MOST_BYTES; shift -= 8) {
            tape[fed] = (byte) (four >> shift);
            fed++;
        }
    }

    public int text(int n) {
        if (n < 0 || n > fed) {
            return MISSING;
        }
        fed = 0;
        int lines = proofReader.read(n);
        if (lines == NONE) {
            return NONE;
        }
        reader.read(n);
        standing.begin();
        complaints.clear();
        orders.forget();
        imageKept = false;
        return lines;
    }

    public int fault(int what) {
        if (what == 0) {
            return proofReader.fault;
        }
        return what == 1 ? proofReader.faultPlace : NONE;
    }

    public int named(int what, int letters) {
        switch (what) {
            case 0: return terrace.houses.find(letters);
            case 1: return terrace.holes.find(letters);
            case 2: return terrace.panes.find(letters);
            default: return NONE;
        }
    }

    public int look(int pane, int what) throws IndexOutOfBoundsException, NoSuchElementException {
        if (!terrace.panes.has(pane)) {
            throw new IndexOutOfBoundsException("no such pane");
        }
        switch (what) {
            case 0: return standing.where[pane];
            case 1: return terrace.paneSizes[pane];
            case 2: return terrace.fitting(pane);
            default: throw new NoSuchElementException("no such what");
        }
    }

    public int hole(int hole, int what) {
        if (!terrace.holes.has(hole)) {
            return NONE;
        }
        switch (what) {
            case 0: return terrace.holeHouses[hole];
            case 1: return terrace.holeSizes[hole];
            case 2: return terrace.holeGardens[hole];
            case 3: return standing.paneIn(hole);
            default: return NONE;
        }
    }

    public int house(int house, int what) {
        if (!terrace.houses.has(house)) {
            return NONE;
        }
        int there = terrace.panesAt(house, standing.order());
        switch (what) {
            case 0: return Integer.bitCount(there);
            case 1: return terrace.gardensSeen(house, standing.order());
            case 2: return standing.paid[house];
            case 3: return reckoner.duePaid(house, there, standing.night);
            default: return NONE;
        }
    }

    public long law(int what, int which, int to) {
        switch (what) {
            case Laws.DUE: return rawDue(which);
            case Laws.SNAP: return rawSnap(which, to);
            case Laws.HARM: return rawHarm(which);
            default: return Laws.ERROR;
        }
    }

    private long rawDue(int house) {
        if (!terrace.houses.has(house)) {
            return Laws.ERROR;
        }
        return reckoner.due(house, terrace.panesAt(house, standing.order()), standing.night);
    }

    private long rawSnap(int pane, int hole) {
        if (!isWhole(pane) || !terrace.holes.has(hole)) {
            return Laws.ERROR;
        }
        return reckoner.snap(pane, hole);
    }

    private long rawHarm(int hole) {
        if (!terrace.holes.has(hole) || standing.paneIn(hole) == NONE) {
            return Laws.ERROR;
        }
        return reckoner.harm(hole);
    }

    private boolean isWhole(int pane) {
        return terrace.panes.has(pane) && standing.where[pane] != BROKEN;
    }

    public int move(int pane, int hole) {
        if (!mayGo(pane, hole)) {
            return NONE;
        }
        if (standing.moves >= terrace.carriers) {
            return MISSING;
        }
        int place = hole;
        if (hole != NONE) {
            int risk = reckoner.snapRisk(pane, hole);
            standing.last = Reckoner.numberBehind(standing.last);
            place = Reckoner.breaks(standing.last, risk) ? BROKEN : hole;
        }
        standing.put(pane, place, true);
        return place == BROKEN ? 0 : 1;
    }

    private boolean mayGo(int pane, int hole) {
        if (!isWhole(pane) || standing.where[pane] == hole) {
            return false;
        }
        return hole == NONE || terrace.fits(pane, hole) && standing.paneIn(hole) == NONE;
    }

    public int nights(int n) {
        if (n < 0 || n > LAST_NIGHT + 1 - standing.night) {
            return NONE;
        }
        for (int k = 0; k < n; k++) {
            standing.lightFeasts();
            standing.keepSights();
            if (terrace.taxes.find(standing.night) != NONE) {
                payTax();
            }
            standing.goOn();
        }
        return standing.night;
    }

    private void payTax() {
        for (int house = 0; house < terrace.houses.count; house++) {
            int there = terrace.panesAt(house, standing.order());
            standing.paid[house] += reckoner.duePaid(house, there, standing.night);
        }
    }

    public int feast(int feast) {
        if (!terrace.hasFeast(feast)) {
            return NONE;
        }
        if (terrace.feastNights[feast] >= standing.night) {
            return MISSING;
        }
        return standing.lit >> feast & 1;
    }

    public int saw(int house, int garden, int k) {
        if (!terrace.houses.has(house) || !terrace.houses.has(garden) || k < NONE) {
            return NONE;
        }
        long seen = standing.seen[house * MOST_HOUSES + garden];
        if (k == NONE) {
            return Long.bitCount(seen);
        }
        int left = k;
        for (int night = 0; night <= LAST_NIGHT; night++) {
            if ((seen >> night & 1L) != 0L) {
                if (left == 0) {
                    return night;
                }
                left--;
            }
        }
        return MISSING;
    }

    public int plan(int feasts) {
        if (!areAhead(feasts)) {
            return NONE;
        }
        orders.list();
        planner.ask(feasts);
        return planner.fewestMoves(terrace.carriers);
    }

    private boolean areAhead(int feasts) {
        if (feasts < 0 || feasts >= 1 << terrace.feasts) {
            return false;
        }
        for (int feast = 0; feast < terrace.feasts; feast++) {
            if ((feasts >> feast & 1) != 0 && terrace.feastNights[feast] < standing.night) {
                return false;
            }
        }
        return true;
    }

    public int hangs(int feasts, int feast, int pane) {
        if (!areAhead(feasts) || !terrace.hasFeast(feast) || (feasts >> feast & 1) == 0) {
            return NONE;
        }
        if (!terrace.panes.has(pane)) {
            return NONE;
        }
        orders.list();
        planner.ask(feasts);
        int moves = planner.fewestMoves(terrace.carriers);
        if (moves == MISSING) {
            return UNSETTLED;
        }
        return Orders.answer(planner.orderFor(moves, terrace.feastNights[feast]), pane);
    }

    public int carriers(int feasts) {
        if (!areAhead(feasts)) {
            return NONE;
        }
        orders.list();
        planner.ask(feasts);
        if (planner.fewestMoves(MOST_CARRIERS) == MISSING) {
            return MISSING;
        }
        int low = 0;
        int high = MOST_CARRIERS;
        while (low < high) {
            int middle = (low + high) / 2;
            if (planner.fewestMoves(middle) == MISSING) {
                low = middle + 1;
            } else {
                high = middle;
            }
        }
        return low;
    }

    public int least(int night, int m, int what) {
        if (!reckoner.seekLeast(orders, night, m)) {
            return NONE;
        }
        if (what == 0) {
            return reckoner.leastTax;
        }
        return what == 1 ? reckoner.leastMoves : NONE;
    }

    public int placed(int night, int m, int pane) {
        if (!terrace.panes.has(pane) || !reckoner.seekLeast(orders, night, m)) {
            return NONE;
        }
        return Orders.answer(reckoner.leastOrder, pane);
    }

    public int most() {
        orders.list();
        return orders.mostHung();
    }

    public int shutting() {
        reckoner.lineUp();
        return reckoner.shuttingCost();
    }

    public int shut(int k) {
        if (k < 0) {
            return NONE;
        }
        reckoner.lineUp();
        return k < reckoner.toShut ? reckoner.shutHoles[k] : MISSING;
    }

    public int light(int house, int many) {
        if (!terrace.houses.has(house) || many < 0 || many > MOST_LIGHT_TOLD) {
            return NONE;
        }
        return complaints.add(Complaints.LIGHT, house, many);
    }

    public int sight(int house, int garden, boolean is) {
        if (!terrace.houses.has(house) || !terrace.houses.has(garden)) {
            return NONE;
        }
        return complaints.add(is ? Complaints.SEEN : Complaints.UNSEEN, house, garden);
    }

    public int strike(int complaint) {
        if (complaint < 0 || complaint >= complaints.count) {
            return NONE;
        }
        return complaints.add(Complaints.STRIKE, complaint, 0);
    }

    public boolean known(int n) {
        if (n < NONE || n > complaints.count) {
            return false;
        }
        complaints.limit = n;
        return true;
    }

    public int tales() {
        startTales();
        int many = 0;
        for (int k = 0; k < orders.count; k++) {
            if (complaints.allow(orders.listed[k])) {
                many++;
            }
        }
        return many;
    }

    private void startTales() {
        orders.list();
        complaints.settle();
    }

    public int tale(int k, int pane) {
        if (k < 0 || !terrace.panes.has(pane)) {
            return NONE;
        }
        startTales();
        int left = k;
        for (int i = 0; i < orders.count; i++) {
            if (complaints.allow(orders.listed[i])) {
                if (left == 0) {
                    return Orders.answer(orders.listed[i], pane);
                }
                left--;
            }
        }
        return UNSETTLED;
    }

    public int sure(int pane) {
        if (!terrace.panes.has(pane)) {
            return NONE;
        }
        startTales();
        int place = UNSETTLED;
        for (int k = 0; k < orders.count; k++) {
            if (complaints.allow(orders.listed[k])) {
                int here = Orders.answer(orders.listed[k], pane);
                if (place != UNSETTLED && place != here) {
                    return UNSETTLED;
                }
                place = here;
            }
        }
        return place;
    }

    public int chance(int seed, int pane, int hole, int n) {
        if (seed < 0 || n < 1 || n > MOST_DRAWN || !isWhole(pane) || !terrace.fits(pane, hole)) {
            return NONE;
        }
        int risk = reckoner.snapRisk(pane, hole);
        int last = seed;
        int whole = 0;
        for (int draw = 0; draw < DRAWS; draw++) {
            boolean broken = false;
            for (int k = 0; k < n; k++) {
                last = Reckoner.numberBehind(last);
                broken = broken || Reckoner.breaks(last, risk);
            }
            whole += broken ? 0 : 1;
        }
        return whole;
    }

    public int bird(int hole) {
        if (!terrace.holes.has(hole)) {
            return NONE;
        }
        int pane = standing.paneIn(hole);
        if (pane == NONE) {
            return MISSING;
        }
        standing.put(pane, BROKEN, false);
        return pane;
    }

    public int undo() {
        return standing.takeBack() ? standing.toUndo : NONE;
    }

    public int keep() {
        image.copy(standing);
        imageKept = true;
        return standing.night;
    }

    public int back() {
        if (!imageKept) {
            return NONE;
        }
        standing.copy(image);
        return standing.night;
    }

    public int count(int what) {
        switch (what) {
            case 0: return terrace.houses.count;
            case 1: return terrace.holes.count;
            case 2: return terrace.panes.count;
            case 3: return terrace.feasts;
            case 4: return terrace.laws.told;
            case 5: return standing.night;
            case 6: return complaints.count;
            case 7: return complaints.heard();
            case 8: return standing.toUndo;
            case 9: return Integer.bitCount(standing.broken());
            case 10: return standing.allPaid();
            case 11: return standing.moves;
            default: return NONE;
        }
    }

    /** What a TEXT is made of. A rank tells how tightly a sign of a law binds; 0: it is none. */
    private enum Token {
        END("", 0), UNKNOWN("", 0), NUMBER("", 0), NAME("", 0), STOP(";", 0),
        HOUSE("house", 0), HOLE("hole", 0), SEES("sees", 0), PANE("pane", 0), IN("in", 0),
        FRAME("frame", 0), FEAST("feast", 0), TAX("tax", 0), CARRIERS("carriers", 0),
        SEED("seed", 0), LAW("law", 0), DUE("due", 0), SNAP("snap", 0), HARM("harm", 0),
        PANES("panes", 0), SIZE("size", 0), PLACE("place", 0), FAR("far", 0), NIGHT("night", 0),
        OPEN("(", 0), CLOSE(")", 0),
        OR("or", 1), AND("and", 2), NOT("not", 3),
        LESS("<", 4), AT_MOST("<=", 4), EQUAL("=", 4), UNLIKE("<>", 4), AT_LEAST(">=", 4),
        MORE(">", 4),
        PLUS("+", 5), MINUS("-", 5), TIMES("*", 6), BY("/", 6);

        private static final Token[] ALL = values();
        private static final int COMPARING = 4;

        final String letters;
        final int rank;

        Token(String letters, int rank) {
            this.letters = letters;
            this.rank = rank;
        }

        boolean joins() {
            return rank > 0 && this != NOT;
        }

        boolean compares() {
            return rank == COMPARING;
        }

        boolean isQuantity() {
            return this == PANES || this == SIZE || this == PLACE || this == FAR || this == NIGHT;
        }

        /** The TOKEN written in these bytes to the letter, UNKNOWN if none is. */
        static Token written(byte[] bytes, int from, int until) {
            if (from < 0 || until > bytes.length) {
                return UNKNOWN;
            }
            for (int k = 0; k < ALL.length; k++) {
                int length = ALL[k].letters.length();
                int same = 0;
                while (same < length && length == until - from
                        && ALL[k].letters.charAt(same) == bytes[from + same]) {
                    same++;
                }
                if (same > 0 && same == length) {
                    return ALL[k];
                }
            }
            return UNKNOWN;
        }
    }

    /** Goes along the bytes of a TEXT, one TOKEN at a time. */
    private static final class Scanner {
        private static final int MOST_LETTERS = 6;
        /** No number of the language is as high, so digits beyond it need not be told apart. */
        private static final int HIGH = 1000000;

        private final byte[] bytes;
        private int length = 0;
        private int at = 0;
        Token token = Token.END;
        int place = 0;
        /** Of the TOKEN ahead of this one. */
        int placeAhead = 0;
        int number = 0;
        int letters = 0;

        Scanner(byte[] bytes) {
            this.bytes = bytes;
        }

        void start(int n) {
            length = n < 0 ? 0 : Math.min(n, bytes.length);
            at = 0;
            step();
        }

        void step() {
            while (at < length && (bytes[at] == ' ' || bytes[at] == '\n')) {
                at++;
            }
            placeAhead = place;
            place = at;
            if (at >= length) {
                token = Token.END;
            } else if (isDigit(at)) {
                readNumber();
                token = Token.NUMBER;
            } else {
                boolean isWord = isLetter(at);
                if (isWord) {
                    readLetters();
                } else {
                    passSign();
                }
                token = Token.written(bytes, place, at);
                if (token == Token.UNKNOWN && isWord && at - place <= MOST_LETTERS) {
                    token = Token.NAME;
                }
            }
        }

        private boolean isLetter(int k) {
            return k < length && bytes[k] >= 'a' && bytes[k] <= 'z';
        }

        private boolean isDigit(int k) {
            return k < length && bytes[k] >= '0' && bytes[k] <= '9';
        }

        private boolean isByte(int k, char sign) {
            return k < length && bytes[k] == sign;
        }

        private void readLetters() {
            letters = 0;
            for (; at < length && isLetter(at); at++) {
                int k = at - place;
                if (k < MOST_LETTERS) {
                    letters |= (bytes[at] - 'a' + 1) << (5 * (MOST_LETTERS - 1 - k));
                }
            }
        }

        private void readNumber() {
            number = 0;
            for (; at < length && isDigit(at); at++) {
                number = Math.min(HIGH, number * 10 + bytes[at] - '0');
            }
        }

        private void passSign() {
            boolean less = isByte(at, '<');
            boolean more = isByte(at, '>');
            at++;
            if ((less || more) && isByte(at, '=') || less && isByte(at, '>')) {
                at++;
            }
        }
    }

    /** Marks (names by their letters, NIGHTS, frames), each once, numbered as they come. */
    private static final class Roll {
        private final int[] marks;
        int count = 0;

        Roll(int most) {
            marks = new int[most < 0 ? 0 : most];
        }

        boolean isFull() {
            return count >= marks.length;
        }

        boolean has(int number) {
            return number >= 0 && number < count;
        }

        int find(int mark) {
            for (int k = 0; k < count; k++) {
                if (marks[k] == mark) {
                    return k;
                }
            }
            return NONE;
        }

        void add(int mark) {
            if (!isFull()) {
                marks[count] = mark;
                count++;
            }
        }
    }

    /** What a TEXT tells. Where panes are at a time is an order: see Orders. */
    private static final class Terrace {
        final Roll houses = new Roll(MOST_HOUSES);
        final Roll holes = new Roll(MOST_HOLES);
        final Roll panes = new Roll(MOST_PANES);
        final Roll frames = new Roll(MOST_FRAMES);
        final Roll taxes = new Roll(MOST_TAXES);
        final int[] holeHouses = new int[MOST_HOLES];
        final int[] holeSizes = new int[MOST_HOLES];
        final int[] holeGardens = new int[MOST_HOLES];
        final int[] paneSizes = new int[MOST_PANES];
        final int[] paneHoles = new int[MOST_PANES];
        final int[] feastNights = new int[MOST_FEASTS];
        final int[] feastHouses = new int[MOST_FEASTS];
        final int[] feastWants = new int[MOST_FEASTS];
        final Laws laws = new Laws();
        int feasts = 0;
        int carriers = USUAL_CARRIERS;
        int seed = 0;

        void clear() {
            houses.count = 0;
            holes.count = 0;
            panes.count = 0;
            frames.count = 0;
            taxes.count = 0;
            feasts = 0;
            carriers = USUAL_CARRIERS;
            seed = 0;
            laws.clear();
        }

        void addHole(int letters, int house, int size, int garden) {
            if (!holes.isFull()) {
                holeHouses[holes.count] = house;
                holeSizes[holes.count] = size;
                holeGardens[holes.count] = garden;
                holes.add(letters);
            }
        }

        void addPane(int letters, int size, int hole) {
            if (!panes.isFull()) {
                paneSizes[panes.count] = size;
                paneHoles[panes.count] = hole;
                panes.add(letters);
            }
        }

        void addFeast(int night, int house, int wants) {
            if (feasts < MOST_FEASTS) {
                feastNights[feasts] = night;
                feastHouses[feasts] = house;
                feastWants[feasts] = wants;
                feasts++;
            }
        }

        boolean hasFeast(int feast) {
            return feast >= 0 && feast < feasts;
        }

        static int frame(int paneSize, int holeSize) {
            return paneSize * (LARGEST_SIZE + 1) + holeSize;
        }

        boolean sizesFit(int paneSize, int holeSize) {
            return paneSize == holeSize || frames.find(frame(paneSize, holeSize)) != NONE;
        }

        boolean fits(int pane, int hole) {
            return panes.has(pane) && holes.has(hole) && sizesFit(paneSizes[pane], holeSizes[hole]);
        }

        int fitting(int pane) {
            int bits = 0;
            for (int hole = 0; hole < holes.count; hole++) {
                bits |= fits(pane, hole) ? 1 << hole : 0;
            }
            return bits;
        }

        boolean hangsAtFirst(int hole) {
            for (int pane = 0; pane < panes.count; pane++) {
                if (paneHoles[pane] == hole) {
                    return true;
                }
            }
            return false;
        }

        /** The panes (bits) that hang in a HOUSE: its LIGHT is how many they are. */
        int panesAt(int house, int order) {
            int bits = 0;
            for (int pane = 0; pane < panes.count; pane++) {
                int hole = Orders.place(order, pane);
                if (holes.has(hole) && holeHouses[hole] == house) {
                    bits |= 1 << pane;
                }
            }
            return bits;
        }

        int sizes(int paneBits) {
            int sum = 0;
            for (int pane = 0; pane < panes.count; pane++) {
                sum += (paneBits >> pane & 1) * paneSizes[pane];
            }
            return sum;
        }

        int gardensSeen(int house, int order) {
            int bits = 0;
            for (int pane = 0; pane < panes.count; pane++) {
                int hole = Orders.place(order, pane);
                if (holes.has(hole) && holeHouses[hole] == house && holeGardens[hole] != NONE) {
                    bits |= 1 << holeGardens[hole];
                }
            }
            return bits;
        }

        boolean isLit(int feast, int order) {
            return hasFeast(feast)
                && Integer.bitCount(panesAt(feastHouses[feast], order)) >= feastWants[feast];
        }
    }

    /**
     * The laws' formulas. They are kept with each sign behind what it joins, so that neither
     * reading nor working them out needs recursion, however deep a formula goes.
     */
    private static final class Laws {
        static final int DUE = 0;
        static final int SNAP = 1;
        static final int HARM = 2;
        static final long ERROR = Long.MIN_VALUE;
        private static final int KINDS = 3;
        private static final int HIGHEST_NUMBER = 9999;
        private static final long LIMIT = 1000000000000L;

        private final Token[] knots = new Token[MOST_KNOTS];
        private final int[] numbers = new int[MOST_KNOTS];
        private final int[] starts = new int[KINDS];
        private final int[] ends = new int[KINDS];
        private final long[] values = new long[MOST_KNOTS];
        private int written = 0;
        /** All KNOTS that were read; those that wait for their right side aren't written yet. */
        int told = 0;

        private final Token[] waiting = new Token[MOST_KNOTS + MOST_OPEN];
        private final boolean[] compared = new boolean[MOST_OPEN + 1];
        private int waits = 0;
        private int open = 0;
        private int kind = DUE;
        private boolean wantsValue = false;
        private boolean mayDeny = false;

        void clear() {
            written = 0;
            told = 0;
            Arrays.fill(starts, 0);
            Arrays.fill(ends, 0);
        }

        static int kindOf(Token token) {
            switch (token) {
                case DUE: return Laws.DUE;
                case SNAP: return Laws.SNAP;
                case HARM: return Laws.HARM;
                default: return NONE;
            }
        }

        boolean isTold(int which) {
            return which >= 0 && which < KINDS && ends[which] > starts[which];
        }

        void begin(int which) {
            kind = which >= 0 && which < KINDS ? which : DUE;
            starts[kind] = written;
            waits = 0;
            open = 0;
            compared[0] = false;
            wantsValue = true;
            mayDeny = true;
        }

        /** Whether the formula that was begun is whole where this TOKEN stands. */
        boolean endsAt(Token token) {
            return token == Token.STOP && !wantsValue && open == 0;
        }

        void end() {
            writeWaiting(0);
            ends[kind] = written;
        }

        /** Takes a formula's next TOKEN: 0, or the FAULT that it is. */
        int take(Token token, int number) {
            return wantsValue ? takeValue(token, number) : takeSign(token);
        }

        private int takeValue(Token token, int number) {
            if (token == Token.OPEN) {
                return takeOpen();
            }
            boolean denies = token == Token.NOT && mayDeny;
            if (!denies && token != Token.NUMBER && !token.isQuantity()) {
                return TextReader.BAD_TOKEN;
            }
            if (told >= MOST_KNOTS || token == Token.NUMBER && number > HIGHEST_NUMBER) {
                return TextReader.TOO_MUCH;
            }
            told++;
            if (denies) {
                await(token);
            } else {
                write(token, number);
                wantsValue = false;
            }
            return 0;
        }

        private int takeOpen() {
            if (open >= MOST_OPEN) {
                return TextReader.TOO_MUCH;
            }
            await(Token.OPEN);
            open++;
            compared[open] = false;
            mayDeny = true;
            return 0;
        }

        private int takeSign(Token token) {
            if (token == Token.CLOSE && open > 0) {
                writeWaiting(0);
                waits = Math.max(0, waits - 1);
                open--;
                return 0;
            }
            // A second comparison needs parentheses, by the language's C.
            if (!token.joins() || token.compares() && compared[open]) {
                return TextReader.BAD_TOKEN;
            }
            if (told >= MOST_KNOTS) {
                return TextReader.TOO_MUCH;
            }
            told++;
            writeWaiting(token.rank);
            await(token);
            mayDeny = token == Token.AND || token == Token.OR;
            compared[open] = token.compares() || compared[open] && !mayDeny;
            wantsValue = true;
            return 0;
        }

        private void await(Token token) {
            if (waits < waiting.length) {
                waiting[waits] = token;
                waits++;
            }
        }

        private void write(Token token, int number) {
            if (written < MOST_KNOTS) {
                knots[written] = token;
                numbers[written] = number;
                written++;
            }
        }

        /** Writes what waits since the last '(' and binds at least as tightly as the rank. */
        private void writeWaiting(int rank) {
            while (waits > 0) {
                Token sign = waiting[waits - 1];
                if (sign == null || sign == Token.OPEN || sign.rank < rank) {
                    return;
                }
                waits--;
                write(sign, 0);
            }
        }

        /** A law's E with these NAMES; ERROR too if it isn't told. */
        long value(int which, int panes, int size, int place, int far, int night) {
            if (!isTold(which)) {
                return ERROR;
            }
            int height = 0;
            for (int k = starts[which]; k < ends[which]; k++) {
                Token knot = knots[k];
                if (knot == null) {
                    return ERROR;
                }
                if (knot.joins() && height >= 2) {
                    height--;
                    values[height - 1] = joined(knot, values[height - 1], values[height]);
                    if (values[height - 1] == ERROR) {
                        return ERROR;
                    }
                } else if (knot == Token.NOT && height >= 1) {
                    values[height - 1] = values[height - 1] == 0L ? 1L : 0L;
                } else if (height < MOST_KNOTS) {
                    values[height] = knot == Token.NUMBER ? numbers[k]
                        : quantity(knot, panes, size, place, far, night);
                    height++;
                }
            }
            return height == 1 ? values[0] : ERROR;
        }

        private static long quantity(Token name, int panes, int size, int place, int far, int night) {
            switch (name) {
                case PANES: return panes;
                case SIZE: return size;
                case PLACE: return place;
                case FAR: return far;
                default: return night;
            }
        }

        private static long joined(Token sign, long left, long right) {
            // Looked at ahead of multiplying: a product of two values can be beyond a long.
            long most = left == 0L ? LIMIT : LIMIT / (left < 0L ? -left : left);
            boolean tooLarge = right > most || right < -most;
            long value;
            switch (sign) {
                case OR: return left != 0L || right != 0L ? 1L : 0L;
                case AND: return left != 0L && right != 0L ? 1L : 0L;
                case LESS: return left < right ? 1L : 0L;
                case AT_MOST: return left <= right ? 1L : 0L;
                case EQUAL: return left == right ? 1L : 0L;
                case UNLIKE: return left != right ? 1L : 0L;
                case AT_LEAST: return left >= right ? 1L : 0L;
                case MORE: return left > right ? 1L : 0L;
                case PLUS: value = left + right; break;
                case MINUS: value = left - right; break;
                case BY: value = right == 0L ? ERROR : left / right; break;
                default: value = tooLarge ? ERROR : left * right;
            }
            return value > LIMIT || value < -LIMIT ? ERROR : value;
        }
    }

    /** Reads a TEXT, and tells its FAULT: the first along the text, for it stops there. */
    private static final class TextReader {
        static final int BAD_TOKEN = 1;
        static final int TOO_MUCH = 2;
        static final int TOLD_ALREADY = 3;
        static final int NOT_TOLD = 4;
        static final int NO_FIT = 5;
        private static final int MOST_WANTED = 6;
        private static final int HIGHEST_SEED = 99999;

        int fault = 0;
        int faultPlace = NONE;
        private final Scanner scanner;
        private final Terrace terrace;
        /** Of the TOKEN taken last: its number, its letters, or what they name. */
        private int taken = 0;
        private boolean carriersTold = false;
        private boolean seedTold = false;

        TextReader(byte[] tape, Terrace terrace) {
            scanner = new Scanner(tape);
            this.terrace = terrace;
        }

        /** How many LINES the first n bytes are; NONE with a FAULT. */
        int read(int n) {
            fault = 0;
            faultPlace = NONE;
            carriersTold = false;
            seedTold = false;
            terrace.clear();
            scanner.start(n);
            for (int lines = 0; lines <= MOST_BYTES; lines++) {
                if (scanner.token == Token.END) {
                    return lines;
                }
                if (!readLine()) {
                    return NONE;
                }
                if (scanner.token != Token.STOP) {
                    wrongHere(BAD_TOKEN);
                    return NONE;
                }
                scanner.step();
            }
            return NONE;
        }

        private boolean readLine() {
            switch (scanner.token) {
                case HOUSE: return readHouse();
                case HOLE: return readHole();
                case PANE: return readPane();
                case FRAME: return readFrame();
                case FEAST: return readFeast();
                case TAX: return readTax();
                case CARRIERS: return readCarriers();
                case SEED: return readSeed();
                case LAW: return readLaw();
                default: return wrongHere(BAD_TOKEN);
            }
        }

        private boolean wrongHere(int number) {
            fault = number;
            faultPlace = scanner.place;
            return false;
        }

        private boolean wrongTaken(int number) {
            fault = number;
            faultPlace = scanner.placeAhead;
            return false;
        }

        private boolean startLine(boolean refused, int why) {
            if (refused) {
                return wrongHere(why);
            }
            scanner.step();
            return true;
        }

        private boolean takeNumber(int least, int most) {
            if (scanner.token != Token.NUMBER) {
                return wrongHere(BAD_TOKEN);
            }
            if (scanner.number < least || scanner.number > most) {
                return wrongHere(TOO_MUCH);
            }
            taken = scanner.number;
            scanner.step();
            return true;
        }

        private boolean takeNewName(Roll names) {
            if (scanner.token != Token.NAME) {
                return wrongHere(BAD_TOKEN);
            }
            if (names.find(scanner.letters) != NONE) {
                return wrongHere(TOLD_ALREADY);
            }
            taken = scanner.letters;
            scanner.step();
            return true;
        }

        private boolean takeToldName(Roll names) {
            if (scanner.token != Token.NAME) {
                return wrongHere(BAD_TOKEN);
            }
            taken = names.find(scanner.letters);
            if (taken == NONE) {
                return wrongHere(NOT_TOLD);
            }
            scanner.step();
            return true;
        }

        private boolean readHouse() {
            if (!startLine(terrace.houses.isFull(), TOO_MUCH) || !takeNewName(terrace.houses)) {
                return false;
            }
            terrace.houses.add(taken);
            return true;
        }

        private boolean readHole() {
            if (!startLine(terrace.holes.isFull(), TOO_MUCH) || !takeNewName(terrace.holes)) {
                return false;
            }
            int letters = taken;
            if (!takeToldName(terrace.houses)) {
                return false;
            }
            int house = taken;
            if (!takeNumber(1, LARGEST_SIZE)) {
                return false;
            }
            int size = taken;
            int garden = NONE;
            if (scanner.token == Token.SEES) {
                scanner.step();
                if (!takeToldName(terrace.houses)) {
                    return false;
                }
                garden = taken;
            }
            terrace.addHole(letters, house, size, garden);
            return true;
        }

        private boolean readPane() {
            if (!startLine(terrace.panes.isFull(), TOO_MUCH) || !takeNewName(terrace.panes)) {
                return false;
            }
            int letters = taken;
            if (!takeNumber(1, LARGEST_SIZE)) {
                return false;
            }
            int size = taken;
            int hole = NONE;
            if (scanner.token == Token.IN) {
                scanner.step();
                if (!takeToldName(terrace.holes)) {
                    return false;
                }
                hole = taken;
                if (terrace.hangsAtFirst(hole) || !terrace.sizesFit(size, terrace.holeSizes[hole])) {
                    return wrongTaken(NO_FIT);
                }
            }
            terrace.addPane(letters, size, hole);
            return true;
        }

        private boolean readFrame() {
            if (!startLine(terrace.frames.isFull(), TOO_MUCH) || !takeNumber(1, LARGEST_SIZE)) {
                return false;
            }
            int paneSize = taken;
            if (!takeNumber(1, LARGEST_SIZE)) {
                return false;
            }
            return addOnce(terrace.frames, Terrace.frame(paneSize, taken));
        }

        private boolean addOnce(Roll roll, int mark) {
            if (roll.find(mark) != NONE) {
                return wrongTaken(TOLD_ALREADY);
            }
            roll.add(mark);
            return true;
        }

        private boolean readFeast() {
            if (!startLine(terrace.feasts >= MOST_FEASTS, TOO_MUCH) || !takeNumber(0, LAST_NIGHT)) {
                return false;
            }
            int night = taken;
            if (!takeToldName(terrace.houses)) {
                return false;
            }
            int house = taken;
            if (!takeNumber(0, MOST_WANTED)) {
                return false;
            }
            terrace.addFeast(night, house, taken);
            return true;
        }

        private boolean readTax() {
            return startLine(terrace.taxes.isFull(), TOO_MUCH) && takeNumber(0, LAST_NIGHT)
                && addOnce(terrace.taxes, taken);
        }

        private boolean readCarriers() {
            if (!startLine(carriersTold, TOLD_ALREADY) || !takeNumber(0, MOST_CARRIERS)) {
                return false;
            }
            carriersTold = true;
            terrace.carriers = taken;
            return true;
        }

        private boolean readSeed() {
            if (!startLine(seedTold, TOLD_ALREADY) || !takeNumber(0, HIGHEST_SEED)) {
                return false;
            }
            seedTold = true;
            terrace.seed = taken;
            return true;
        }

        private boolean readLaw() {
            scanner.step();
            int kind = Laws.kindOf(scanner.token);
            if (kind == NONE) {
                return wrongHere(BAD_TOKEN);
            }
            Laws laws = terrace.laws;
            if (laws.isTold(kind)) {
                return wrongHere(TOLD_ALREADY);
            }
            scanner.step();
            laws.begin(kind);
            for (int k = 0; k <= MOST_BYTES && !laws.endsAt(scanner.token); k++) {
                int wrong = laws.take(scanner.token, scanner.number);
                if (wrong != 0) {
                    return wrongHere(wrong);
                }
                scanner.step();
            }
            laws.end();
            return true;
        }
    }

    /** How things stand: all that goes on as calls are made, but for COMPLAINTS. */
    private static final class Standing {
        final int[] where = new int[MOST_PANES];
        final int[] paid = new int[MOST_HOUSES];
        /** NIGHTS as bits, a HOUSE's gardens in a row. */
        final long[] seen = new long[MOST_HOUSES * MOST_HOUSES];
        int lit = 0;
        int night = 0;
        int last = 0;
        int moves = 0;

        private final int[] undoPanes = new int[MOST_TO_UNDO];
        private final int[] undoPlaces = new int[MOST_TO_UNDO];
        private final boolean[] undoMoves = new boolean[MOST_TO_UNDO];
        int toUndo = 0;

        private final Terrace terrace;

        Standing(Terrace terrace) {
            this.terrace = terrace;
        }

        void begin() {
            for (int pane = 0; pane < MOST_PANES; pane++) {
                where[pane] = terrace.panes.has(pane) ? terrace.paneHoles[pane] : NONE;
            }
            Arrays.fill(paid, 0);
            Arrays.fill(seen, 0L);
            lit = 0;
            night = 0;
            last = terrace.seed;
            moves = 0;
            toUndo = 0;
        }

        /** All but what can be undone, which no IMAGE brings back. */
        void copy(Standing other) {
            System.arraycopy(other.where, 0, where, 0, where.length);
            System.arraycopy(other.paid, 0, paid, 0, paid.length);
            System.arraycopy(other.seen, 0, seen, 0, seen.length);
            lit = other.lit;
            night = other.night;
            last = other.last;
            moves = other.moves;
            toUndo = 0;
        }

        int paneIn(int hole) {
            for (int pane = 0; pane < MOST_PANES; pane++) {
                if (hole >= 0 && where[pane] == hole) {
                    return pane;
                }
            }
            return NONE;
        }

        int broken() {
            int bits = 0;
            for (int pane = 0; pane < MOST_PANES; pane++) {
                bits |= where[pane] == BROKEN ? 1 << pane : 0;
            }
            return bits;
        }

        int order() {
            int order = 0;
            for (int pane = 0; pane < MOST_PANES; pane++) {
                order = Orders.with(order, pane, where[pane] < 0 ? Orders.STORE : where[pane]);
            }
            return order;
        }

        int allPaid() {
            int sum = 0;
            for (int house = 0; house < MOST_HOUSES; house++) {
                sum += paid[house];
            }
            return sum;
        }

        void put(int pane, int place, boolean byMove) {
            remember(pane, byMove);
            where[pane] = place;
            moves += byMove ? 1 : 0;
        }

        /** Never runs out of room: nine MOVES and four birds are the most that a NIGHT can hold. */
        private void remember(int pane, boolean byMove) {
            if (toUndo < MOST_TO_UNDO) {
                undoPanes[toUndo] = pane;
                undoPlaces[toUndo] = where[pane];
                undoMoves[toUndo] = byMove;
                toUndo++;
            }
        }

        boolean takeBack() {
            if (toUndo == 0) {
                return false;
            }
            toUndo--;
            where[undoPanes[toUndo]] = undoPlaces[toUndo];
            moves -= undoMoves[toUndo] ? 1 : 0;
            return true;
        }

        void lightFeasts() {
            for (int feast = 0; feast < terrace.feasts; feast++) {
                if (terrace.feastNights[feast] == night && terrace.isLit(feast, order())) {
                    lit |= 1 << feast;
                }
            }
        }

        void keepSights() {
            for (int house = 0; house < terrace.houses.count; house++) {
                int gardens = terrace.gardensSeen(house, order());
                for (int garden = 0; garden < terrace.houses.count; garden++) {
                    if ((gardens >> garden & 1) != 0) {
                        seen[house * MOST_HOUSES + garden] |= 1L << night;
                    }
                }
            }
        }

        void goOn() {
            night++;
            moves = 0;
            toUndo = 0;
        }
    }

    /**
     * All ORDERS OF PANES there are, the first one first. An order is packed into a number, the
     * place of each pane an octal digit (the first pane's lowest): a HOLE's number or STORE.
     */
    private static final class Orders {
        static final int STORE = 6;
        /** With four panes that all fit six HOLES: 1 + 4 * 6 + 6 * 30 + 4 * 120 + 360. */
        static final int MOST = 1045;
        private static final int PLACES = STORE + 1;
        private static final int ROWS = PLACES * PLACES * PLACES * PLACES;
        private static final int UNLISTED = -1;

        final int[] listed = new int[MOST];
        int count = 0;
        /** The BROKEN panes (bits) for which it is listed: nothing else of a text changes it. */
        private int listedFor = UNLISTED;
        private final Terrace terrace;
        private final Standing standing;

        Orders(Terrace terrace, Standing standing) {
            this.terrace = terrace;
            this.standing = standing;
        }

        static int place(int order, int pane) {
            return order >> 3 * pane & 7;
        }

        static int with(int order, int pane, int place) {
            return order | place << 3 * pane;
        }

        /** How many panes are elsewhere. */
        static int apart(int one, int other) {
            int many = 0;
            for (int pane = 0; pane < MOST_PANES; pane++) {
                many += place(one, pane) == place(other, pane) ? 0 : 1;
            }
            return many;
        }

        static int answer(int order, int pane) {
            int place = place(order, pane);
            return place == STORE ? MISSING : place;
        }

        void forget() {
            listedFor = UNLISTED;
        }

        /** Goes through all rows of places, the last pane's changing first. */
        void list() {
            int broken = standing.broken();
            if (broken == listedFor) {
                return;
            }
            listedFor = broken;
            count = 0;
            for (int row = 0; row < ROWS; row++) {
                int order = 0;
                int left = row;
                for (int pane = MOST_PANES - 1; pane >= 0; pane--) {
                    order = with(order, pane, left % PLACES);
                    left /= PLACES;
                }
                if (canBe(order)) {
                    add(order);
                }
            }
        }

        private boolean canBe(int order) {
            int used = 0;
            for (int pane = 0; pane < MOST_PANES; pane++) {
                int place = place(order, pane);
                if (place != STORE) {
                    boolean isBroken = (listedFor >> pane & 1) != 0;
                    if (isBroken || (used >> place & 1) != 0 || !terrace.fits(pane, place)) {
                        return false;
                    }
                    used |= 1 << place;
                }
            }
            return true;
        }

        private void add(int order) {
            if (count < MOST) {
                listed[count] = order;
                count++;
            }
        }

        int mostHung() {
            int most = 0;
            for (int k = 0; k < count; k++) {
                int hung = 0;
                for (int pane = 0; pane < MOST_PANES; pane++) {
                    hung += place(listed[k], pane) == STORE ? 0 : 1;
                }
                most = Math.max(most, hung);
            }
            return most;
        }
    }

    /**
     * Seeks a PLAN from its last NIGHT to its first: of each order, how many MOVES the rest takes.
     * Orders are not compared in pairs: those that differ in some panes at most are alike once
     * these panes' digits are blotted out, so that a table of blotted orders tells the best.
     */
    private static final class Planner {
        private static final int FAR = 1000;
        private static final int BLOTTED_ORDERS = 010000;
        /** Blots for all sets of panes, small sets first: the digit 7, which is no pane's place. */
        private static final int[] BLOTS = {
            0,
            07, 070, 0700, 07000,
            077, 0707, 07007, 0770, 07070, 07700,
            0777, 07077, 07707, 07770,
            07777
        };
        /** Where the blots for sets of so many panes begin, and the end of all. */
        private static final int[] BEGINS = {0, 1, 5, 11, 15, 16};

        private final int[] nights = new int[MOST_FEASTS];
        private final int[] budgets = new int[MOST_FEASTS];
        private final int[][] rests = new int[MOST_FEASTS][Orders.MOST];
        private final int[] best = new int[BLOTTED_ORDERS];
        /** Of each order, the stages (bits) whose FEASTS are LIT by it. */
        private final int[] litStages = new int[Orders.MOST];
        private int stages = 0;
        private int feasts = 0;
        private final Terrace terrace;
        private final Standing standing;
        private final Orders orders;

        Planner(Terrace terrace, Standing standing, Orders orders) {
            this.terrace = terrace;
            this.standing = standing;
            this.orders = orders;
        }

        /** Sets the FEASTS (bits) for what is asked next; the orders must be listed. */
        void ask(int which) {
            feasts = which;
            stages = 0;
            int night = nextNight(NONE);
            while (night != NONE && stages < MOST_FEASTS) {
                nights[stages] = night;
                stages++;
                night = nextNight(night);
            }
            for (int k = 0; k < orders.count; k++) {
                litStages[k] = stagesLitBy(orders.listed[k]);
            }
        }

        private int nextNight(int behind) {
            int next = NONE;
            for (int feast = 0; feast < terrace.feasts; feast++) {
                int night = terrace.feastNights[feast];
                boolean asked = (feasts >> feast & 1) != 0 && night > behind;
                if (asked && (next == NONE || night < next)) {
                    next = night;
                }
            }
            return next;
        }

        private int stagesLitBy(int order) {
            int bits = (1 << stages) - 1;
            for (int feast = 0; feast < terrace.feasts; feast++) {
                if ((feasts >> feast & 1) != 0 && !terrace.isLit(feast, order)) {
                    bits &= ~(1 << stageOf(terrace.feastNights[feast]));
                }
            }
            return bits;
        }

        private int stageOf(int night) {
            int stage = 0;
            while (stage < stages && nights[stage] != night) {
                stage++;
            }
            return stage;
        }

        /** The fewest MOVES for what was asked; MISSING if so many carriers have no PLAN. */
        int fewestMoves(int carriers) {
            if (stages == 0) {
                return 0;
            }
            setBudgets(carriers);
            for (int stage = stages - 1; stage >= 0; stage--) {
                rate(stage);
                blot(stage);
            }
            int moves = fewestFrom(standing.order(), budgets[0]);
            return moves >= FAR ? MISSING : moves;
        }

        private void setBudgets(int carriers) {
            int night = standing.night - 1;
            int gone = standing.moves;
            for (int stage = 0; stage < stages; stage++) {
                budgets[stage] = Math.max(0, carriers * (nights[stage] - night) - gone);
                night = nights[stage];
                gone = 0;
            }
        }

        private void rate(int stage) {
            boolean isLast = stage == stages - 1;
            for (int k = 0; k < orders.count; k++) {
                int order = orders.listed[k];
                if ((litStages[k] >> stage & 1) == 0) {
                    rests[stage][k] = FAR;
                } else {
                    rests[stage][k] = isLast ? 0 : fewestFrom(order, budgets[stage + 1]);
                }
            }
        }

        private void blot(int stage) {
            Arrays.fill(best, FAR);
            int end = BEGINS[Math.min(budgets[stage], MOST_PANES) + 1];
            for (int k = 0; k < orders.count; k++) {
                int rest = rests[stage][k];
                for (int b = 0; rest < FAR && b < end; b++) {
                    int blotted = orders.listed[k] | BLOTS[b];
                    best[blotted] = Math.min(best[blotted], rest);
                }
            }
        }

        /** The fewest MOVES from an order by one of the stage that was blotted last, and on. */
        private int fewestFrom(int order, int budget) {
            int fewest = FAR;
            int most = Math.min(budget, MOST_PANES);
            for (int moves = 0; moves <= most && moves < fewest; moves++) {
                for (int b = BEGINS[moves]; b < BEGINS[moves + 1]; b++) {
                    fewest = Math.min(fewest, best[order | BLOTS[b]] + moves);
                }
            }
            return fewest;
        }

        /** The order for a NIGHT in the PLAN of so many MOVES that was found last. */
        int orderFor(int moves, int night) {
            int order = standing.order();
            int left = moves;
            for (int stage = 0; stage < stages; stage++) {
                int chosen = firstChoice(stage, order, left);
                if (chosen == NONE) {
                    return order;
                }
                order = orders.listed[chosen];
                left = rests[stage][chosen];
                if (nights[stage] == night) {
                    return order;
                }
            }
            return order;
        }

        private int firstChoice(int stage, int from, int left) {
            for (int k = 0; k < orders.count; k++) {
                int moves = Orders.apart(from, orders.listed[k]);
                if (moves <= budgets[stage] && moves + rests[stage][k] == left) {
                    return k;
                }
            }
            return NONE;
        }
    }

    /** Laws' values as they count: of tax, of breaking, of storms. */
    private static final class Reckoner {
        private static final int SUBSETS = 1 << MOST_PANES;
        private static final int SURE_TO_BREAK = 100;

        int leastTax = 0;
        int leastMoves = 0;
        int leastOrder = 0;
        /** Of each HOUSE by the panes (bits) that hang there. */
        private final int[] dues = new int[MOST_HOUSES * SUBSETS];

        final int[] shutHoles = new int[MOST_HOLES];
        private final int[] shutHarms = new int[MOST_HOLES];
        int toShut = 0;

        private final Terrace terrace;
        private final Standing standing;

        Reckoner(Terrace terrace, Standing standing) {
            this.terrace = terrace;
            this.standing = standing;
        }

        static int numberBehind(int last) {
            return (int) (last * 1103515245L + 12345L & 0x7fffffffL);
        }

        static boolean breaks(int number, int risk) {
            return number / 65536 % 100 < risk;
        }

        private static int counted(long value, int highest, int otherwise) {
            if (value == Laws.ERROR) {
                return otherwise;
            }
            return (int) Math.max(0L, Math.min(highest, value));
        }

        long due(int house, int there, int night) {
            int panes = Integer.bitCount(there);
            return terrace.laws.value(Laws.DUE, panes, terrace.sizes(there), house, 0, night);
        }

        int duePaid(int house, int there, int night) {
            return counted(due(house, there, night), HIGHEST_COST, Integer.bitCount(there));
        }

        /** For a pane and a HOLE that there are. */
        long snap(int pane, int hole) {
            int house = terrace.holeHouses[hole];
            int panes = Integer.bitCount(terrace.panesAt(house, standing.order()));
            int from = standing.where[pane];
            int far = terrace.holes.has(from) ? Math.abs(terrace.holeHouses[from] - house) : 0;
            int size = terrace.paneSizes[pane];
            return terrace.laws.value(Laws.SNAP, panes, size, house, far, standing.night);
        }

        int snapRisk(int pane, int hole) {
            return counted(snap(pane, hole), SURE_TO_BREAK, 0);
        }

        /** For a HOLE in which a pane hangs. */
        long harm(int hole) {
            int house = terrace.holeHouses[hole];
            int panes = Integer.bitCount(terrace.panesAt(house, standing.order()));
            int size = hungSize(hole);
            return terrace.laws.value(Laws.HARM, panes, size, house, 0, standing.night);
        }

        private int hungSize(int hole) {
            int pane = standing.paneIn(hole);
            return pane == NONE ? 0 : terrace.paneSizes[pane];
        }

        /**
         * Seeks the LEAST TAX among all orders; there always is one, for that of now takes no
         * MOVES. False: no such NIGHT, or no such number of MOVES.
         */
        boolean seekLeast(Orders orders, int night, int most) {
            if (night < 0 || night > LAST_NIGHT || most < 0 || most > MOST_MOVES_ASKED) {
                return false;
            }
            int now = standing.order();
            orders.list();
            fillDues(night);
            leastTax = Integer.MAX_VALUE;
            leastMoves = 0;
            leastOrder = now;
            for (int k = 0; k < orders.count; k++) {
                int order = orders.listed[k];
                int moves = Orders.apart(now, order);
                int tax = moves <= most ? taxOf(order) : Integer.MAX_VALUE;
                if (tax < leastTax || tax == leastTax && moves < leastMoves) {
                    leastTax = tax;
                    leastMoves = moves;
                    leastOrder = order;
                }
            }
            return true;
        }

        private void fillDues(int night) {
            for (int house = 0; house < terrace.houses.count; house++) {
                for (int there = 0; there < 1 << terrace.panes.count; there++) {
                    dues[house * SUBSETS + there] = duePaid(house, there, night);
                }
            }
        }

        private int taxOf(int order) {
            int sum = 0;
            for (int house = 0; house < terrace.houses.count; house++) {
                sum += dues[house * SUBSETS + terrace.panesAt(house, order)];
            }
            return sum;
        }

        /** The HOLES to shut by how much harm they cost, of the same harm the first one first. */
        void lineUp() {
            toShut = 0;
            for (int hole = 0; hole < terrace.holes.count; hole++) {
                if (standing.paneIn(hole) != NONE) {
                    int size = hungSize(hole);
                    lineIn(hole, counted(harm(hole), HIGHEST_COST, size));
                }
            }
        }

        private void lineIn(int hole, int harm) {
            int k = toShut;
            while (k > 0 && shutHarms[k - 1] < harm) {
                shutHoles[k] = shutHoles[k - 1];
                shutHarms[k] = shutHarms[k - 1];
                k--;
            }
            shutHoles[k] = hole;
            shutHarms[k] = harm;
            toShut++;
        }

        int shuttingCost() {
            int cost = 0;
            for (int k = 0; k < toShut; k++) {
                cost += k * shutHarms[k];
            }
            return cost;
        }
    }

    /** COMPLAINTS, and which orders they allow. */
    private static final class Complaints {
        static final int LIGHT = 0;
        static final int SEEN = 1;
        static final int UNSEEN = 2;
        static final int STRIKE = 3;

        private final int[] kinds = new int[MOST_COMPLAINTS];
        /** The HOUSE; of a STRIKE, which COMPLAINT it strikes. */
        private final int[] abouts = new int[MOST_COMPLAINTS];
        private final int[] claims = new int[MOST_COMPLAINTS];
        private final boolean[] struck = new boolean[MOST_COMPLAINTS];
        int count = 0;
        /** By how many they are KNOWN; NONE: by all, those to come too. */
        int limit = NONE;

        private final Terrace terrace;

        Complaints(Terrace terrace) {
            this.terrace = terrace;
        }

        void clear() {
            count = 0;
            limit = NONE;
        }

        int add(int kind, int about, int claim) {
            if (count >= MOST_COMPLAINTS) {
                return NONE;
            }
            kinds[count] = kind;
            abouts[count] = about;
            claims[count] = claim;
            count++;
            return count - 1;
        }

        int heard() {
            return limit == NONE ? count : Math.min(limit, count);
        }

        /** Finds what is STRUCK; from the last one on, for only later ones can strike it. */
        void settle() {
            for (int k = 0; k < MOST_COMPLAINTS; k++) {
                struck[k] = false;
            }
            for (int k = heard() - 1; k >= 0; k--) {
                if (kinds[k] == STRIKE && !struck[k]) {
                    struck[abouts[k]] = true;
                }
            }
        }

        /** Whether by this order all KNOWN ones are so, as they were settled last. */
        boolean allow(int order) {
            int heard = heard();
            for (int k = 0; k < heard; k++) {
                if (!struck[k] && !isSo(k, order)) {
                    return false;
                }
            }
            return true;
        }

        private boolean isSo(int k, int order) {
            if (kinds[k] == STRIKE) {
                return true;
            }
            if (kinds[k] == LIGHT) {
                return Integer.bitCount(terrace.panesAt(abouts[k], order)) == claims[k];
            }
            boolean seen = (terrace.gardensSeen(abouts[k], order) >> claims[k] & 1) != 0;
            return seen == (kinds[k] == SEEN);
        }
    }
}
