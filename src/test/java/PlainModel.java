import java.math.BigInteger;
import java.util.ArrayList;
import java.util.HashMap;
import java.util.List;
import java.util.Map;

/**
 * The document once more, written for plainness alone: recursion, lists, all sequences tried. Random
 * runs are held against it. It shares nothing with the class but the reading of the document.
 */
final class PlainModel {
    static final int STORE = 6;
    private static final BigInteger LIMIT = BigInteger.TEN.pow(12);
    private static final List<String> LANGUAGE = List.of("house", "hole", "sees", "pane", "in", "frame",
        "feast", "tax", "carriers", "seed", "law", "due", "snap", "harm", "or", "and", "not", "panes",
        "size", "place", "far", "night");
    private static final List<String> QUANTITIES = List.of("panes", "size", "place", "far", "night");

    /** A place and a FAULT, thrown by the reader below. */
    static final class Fault extends RuntimeException {
        private static final long serialVersionUID = 1L;
        final int number;
        final int place;

        Fault(int number, int place) {
            this.number = number;
            this.place = place;
        }
    }

    record Token(String text, int place) {
        boolean isNumber() {
            return !text.isEmpty() && Character.isDigit(text.charAt(0));
        }

        boolean isName() {
            return text.matches("[a-z]{1,6}") && !LANGUAGE.contains(text);
        }
    }

    record Hole(String name, int house, int size, int garden) { }

    record Pane(String name, int size, int hole) { }

    record Feast(int night, int house, int wants) { }

    /** A formula's tree: a number or a name, or a sign with one or two sides. */
    record Node(String sign, Node left, Node right) { }

    final List<String> houses = new ArrayList<>();
    final List<Hole> holes = new ArrayList<>();
    final List<Pane> panes = new ArrayList<>();
    final List<String> frames = new ArrayList<>();
    final List<Feast> feasts = new ArrayList<>();
    final List<Integer> taxes = new ArrayList<>();
    final Map<String, Node> laws = new HashMap<>();
    int carriers = -1;
    int seed = -1;
    int knots = 0;
    int lines = 0;

    private final List<Token> tokens = new ArrayList<>();
    private int at = 0;
    private int open = 0;

    // ---- reading

    PlainModel(String text) {
        cut(text);
        while (!peek().text().isEmpty()) {
            readLine();
            need(peek().text().equals(";"), 1);
            at++;
            lines++;
        }
        carriers = carriers < 0 ? 2 : carriers;
        seed = seed < 0 ? 0 : seed;
        begin();
    }

    private void cut(String text) {
        int k = 0;
        while (k < text.length()) {
            char c = text.charAt(k);
            int end = k + 1;
            if (c == ' ' || c == '\n') {
                k++;
                continue;
            }
            if (c >= 'a' && c <= 'z') {
                while (end < text.length() && text.charAt(end) >= 'a' && text.charAt(end) <= 'z') {
                    end++;
                }
            } else if (c >= '0' && c <= '9') {
                while (end < text.length() && text.charAt(end) >= '0' && text.charAt(end) <= '9') {
                    end++;
                }
            } else if (text.startsWith("<=", k) || text.startsWith(">=", k) || text.startsWith("<>", k)) {
                end++;
            }
            tokens.add(new Token(text.substring(k, end), k));
            k = end;
        }
        tokens.add(new Token("", text.length()));
    }

    private Token peek() {
        return tokens.get(at);
    }

    private void need(boolean is, int fault) {
        if (!is) {
            throw new Fault(fault, peek().place());
        }
    }

    private int number(int least, int most) {
        need(peek().isNumber(), 1);
        BigInteger value = new BigInteger(peek().text());
        need(value.compareTo(BigInteger.valueOf(least)) >= 0
            && value.compareTo(BigInteger.valueOf(most)) <= 0, 2);
        at++;
        return value.intValue();
    }

    private String name(List<String> told, boolean isNew) {
        need(peek().isName(), 1);
        need(told.contains(peek().text()) != isNew, isNew ? 3 : 4);
        return tokens.get(at++).text();
    }

    private List<String> holeNames() {
        return holes.stream().map(Hole::name).toList();
    }

    private List<String> paneNames() {
        return panes.stream().map(Pane::name).toList();
    }

    private void readLine() {
        String word = peek().text();
        switch (word) {
            case "house" -> {
                need(houses.size() < 5, 2);
                at++;
                houses.add(name(houses, true));
            }
            case "hole" -> {
                need(holes.size() < 6, 2);
                at++;
                String name = name(holeNames(), true);
                int house = houses.indexOf(name(houses, false));
                int size = number(1, 9);
                int garden = -1;
                if (peek().text().equals("sees")) {
                    at++;
                    garden = houses.indexOf(name(houses, false));
                }
                holes.add(new Hole(name, house, size, garden));
            }
            case "pane" -> {
                need(panes.size() < 4, 2);
                at++;
                readPane();
            }
            case "frame" -> {
                need(frames.size() < 4, 2);
                at++;
                String frame = number(1, 9) + ">" + number(1, 9);
                at--;
                need(!frames.contains(frame), 3);
                at++;
                frames.add(frame);
            }
            case "feast" -> {
                need(feasts.size() < 5, 2);
                at++;
                int night = number(0, 60);
                int house = houses.indexOf(name(houses, false));
                feasts.add(new Feast(night, house, number(0, 6)));
            }
            case "tax" -> {
                need(taxes.size() < 4, 2);
                at++;
                int night = number(0, 60);
                at--;
                need(!taxes.contains(night), 3);
                at++;
                taxes.add(night);
            }
            case "carriers" -> {
                need(carriers < 0, 3);
                at++;
                carriers = number(0, 9);
            }
            case "seed" -> {
                need(seed < 0, 3);
                at++;
                seed = number(0, 99999);
            }
            case "law" -> {
                at++;
                String kind = peek().text();
                need(kind.equals("due") || kind.equals("snap") || kind.equals("harm"), 1);
                need(!laws.containsKey(kind), 3);
                at++;
                laws.put(kind, readE());
            }
            default -> need(false, 1);
        }
    }

    private void readPane() {
        String name = name(paneNames(), true);
        int size = number(1, 9);
        int hole = -1;
        if (peek().text().equals("in")) {
            at++;
            hole = holeNames().indexOf(name(holeNames(), false));
            at--;
            int there = hole;
            need(sizesFit(size, holes.get(hole).size()), 5);
            need(panes.stream().noneMatch(p -> p.hole() == there), 5);
            at++;
        }
        panes.add(new Pane(name, size, hole));
    }

    private void knot() {
        need(knots < 64, 2);
        knots++;
        at++;
    }

    private Node readE() {
        Node left = readA();
        while (peek().text().equals("or")) {
            knot();
            left = new Node("or", left, readA());
        }
        return left;
    }

    private Node readA() {
        Node left = readB();
        while (peek().text().equals("and")) {
            knot();
            left = new Node("and", left, readB());
        }
        return left;
    }

    private Node readB() {
        if (peek().text().equals("not")) {
            knot();
            return new Node("not", readB(), null);
        }
        Node left = readS();
        String sign = peek().text();
        if (List.of("<", "<=", "=", "<>", ">=", ">").contains(sign)) {
            knot();
            left = new Node(sign, left, readS());
        }
        return left;
    }

    private Node readS() {
        Node left = readT();
        while (peek().text().equals("+") || peek().text().equals("-")) {
            String sign = peek().text();
            knot();
            left = new Node(sign, left, readT());
        }
        return left;
    }

    private Node readT() {
        Node left = readP();
        while (peek().text().equals("*") || peek().text().equals("/")) {
            String sign = peek().text();
            knot();
            left = new Node(sign, left, readP());
        }
        return left;
    }

    private Node readP() {
        Token token = peek();
        if (token.text().equals("(")) {
            need(open < 8, 2);
            open++;
            at++;
            Node inside = readE();
            need(peek().text().equals(")"), 1);
            at++;
            open--;
            return inside;
        }
        if (token.isNumber()) {
            number(0, 9999);
            at--;
        } else {
            need(QUANTITIES.contains(token.text()), 1);
        }
        knot();
        return new Node(token.text(), null, null);
    }

    // ---- laws

    /** A law's E; null with an ERROR or without the law. */
    Long value(String kind, Map<String, Integer> names) {
        Node law = laws.get(kind);
        BigInteger value = law == null ? null : work(law, names);
        return value == null ? null : value.longValueExact();
    }

    private static BigInteger work(Node node, Map<String, Integer> names) {
        if (node.left() == null) {
            Integer named = names.get(node.sign());
            return named == null ? new BigInteger(node.sign()) : BigInteger.valueOf(named);
        }
        BigInteger a = work(node.left(), names);
        BigInteger b = node.right() == null ? BigInteger.ZERO : work(node.right(), names);
        if (a == null || b == null) {
            return null;
        }
        int c = a.compareTo(b);
        BigInteger value = switch (node.sign()) {
            case "or" -> truth(a.signum() != 0 || b.signum() != 0);
            case "and" -> truth(a.signum() != 0 && b.signum() != 0);
            case "not" -> truth(a.signum() == 0);
            case "<" -> truth(c < 0);
            case "<=" -> truth(c <= 0);
            case "=" -> truth(c == 0);
            case "<>" -> truth(c != 0);
            case ">=" -> truth(c >= 0);
            case ">" -> truth(c > 0);
            case "+" -> a.add(b);
            case "-" -> a.subtract(b);
            case "*" -> a.multiply(b);
            default -> b.signum() == 0 ? null : a.divide(b);
        };
        return value == null || value.abs().compareTo(LIMIT) > 0 ? null : value;
    }

    private static BigInteger truth(boolean is) {
        return is ? BigInteger.ONE : BigInteger.ZERO;
    }

    // ---- how things stand

    int[] where;
    int night;
    long last;
    int moves;
    int[] paid;
    List<List<boolean[]>> sights;
    boolean[] lit;
    final List<int[]> undo = new ArrayList<>();
    PlainModel image;
    final List<int[]> complaints = new ArrayList<>();
    int known = -1;

    private void begin() {
        where = panes.stream().mapToInt(Pane::hole).toArray();
        last = seed;
        paid = new int[houses.size()];
        lit = new boolean[feasts.size()];
        sights = new ArrayList<>();
    }

    boolean sizesFit(int paneSize, int holeSize) {
        return paneSize == holeSize || frames.contains(paneSize + ">" + holeSize);
    }

    boolean fits(int pane, int hole) {
        return sizesFit(panes.get(pane).size(), holes.get(hole).size());
    }

    int paneIn(int hole) {
        for (int p = 0; p < where.length; p++) {
            if (where[p] == hole) {
                return p;
            }
        }
        return -1;
    }

    int lightOf(int house, int[] places) {
        int many = 0;
        for (int hole : places) {
            many += hole >= 0 && hole < holes.size() && holes.get(hole).house() == house ? 1 : 0;
        }
        return many;
    }

    int sizesOf(int house, int[] places) {
        int sum = 0;
        for (int p = 0; p < places.length; p++) {
            int hole = places[p];
            if (hole >= 0 && hole < holes.size() && holes.get(hole).house() == house) {
                sum += panes.get(p).size();
            }
        }
        return sum;
    }

    boolean sees(int house, int garden, int[] places) {
        for (int hole : places) {
            if (hole >= 0 && hole < holes.size() && holes.get(hole).house() == house
                    && holes.get(hole).garden() == garden) {
                return true;
            }
        }
        return false;
    }

    private static Map<String, Integer> names(int panes, int size, int place, int far, int night) {
        return Map.of("panes", panes, "size", size, "place", place, "far", far, "night", night);
    }

    Long due(int house, int[] places, int when) {
        return value("due", names(lightOf(house, places), sizesOf(house, places), house, 0, when));
    }

    Long snap(int pane, int hole) {
        int house = holes.get(hole).house();
        int far = where[pane] < 0 ? 0 : Math.abs(holes.get(where[pane]).house() - house);
        return value("snap", names(lightOf(house, where), panes.get(pane).size(), house, far, night));
    }

    Long harm(int hole) {
        int house = holes.get(hole).house();
        int size = panes.get(paneIn(hole)).size();
        return value("harm", names(lightOf(house, where), size, house, 0, night));
    }

    static int counted(Long value, int highest, int otherwise) {
        return value == null ? otherwise : (int) Math.max(0, Math.min(highest, value));
    }

    int duePaid(int house, int[] places, int when) {
        return counted(due(house, places, when), 9999, lightOf(house, places));
    }

    private boolean breaks(int risk) {
        last = (last * 1103515245L + 12345L) % (1L << 31);
        return last / 65536 % 100 < risk;
    }

    int move(int pane, int hole) {
        if (pane < 0 || pane >= where.length || hole < -1 || hole >= holes.size()) {
            return -1;
        }
        boolean free = hole == -1 || fits(pane, hole) && paneIn(hole) == -1;
        if (where[pane] == -2 || where[pane] == hole || !free) {
            return -1;
        }
        if (moves >= carriers) {
            return -2;
        }
        int place = hole == -1 || !breaks(counted(snap(pane, hole), 100, 0)) ? hole : -2;
        undo.add(new int[] {pane, where[pane], 1});
        where[pane] = place;
        moves++;
        return place == -2 ? 0 : 1;
    }

    int bird(int hole) {
        if (hole < 0 || hole >= holes.size()) {
            return -1;
        }
        int pane = paneIn(hole);
        if (pane >= 0) {
            undo.add(new int[] {pane, hole, 0});
            where[pane] = -2;
        }
        return pane >= 0 ? pane : -2;
    }

    int undo() {
        if (undo.isEmpty()) {
            return -1;
        }
        int[] latest = undo.remove(undo.size() - 1);
        where[latest[0]] = latest[1];
        moves -= latest[2];
        return undo.size();
    }

    int nights(int n) {
        if (n < 0 || n > 61 || night + n > 61) {
            return -1;
        }
        for (int k = 0; k < n; k++) {
            for (int f = 0; f < lit.length; f++) {
                Feast feast = feasts.get(f);
                lit[f] |= feast.night() == night && lightOf(feast.house(), where) >= feast.wants();
            }
            List<boolean[]> tonight = new ArrayList<>();
            for (int h = 0; h < houses.size(); h++) {
                tonight.add(new boolean[houses.size()]);
                for (int g = 0; g < houses.size(); g++) {
                    tonight.get(h)[g] = sees(h, g, where);
                }
            }
            sights.add(tonight);
            for (int h = 0; h < houses.size() && taxes.contains(night); h++) {
                paid[h] += duePaid(h, where, night);
            }
            night++;
            moves = 0;
            undo.clear();
        }
        return night;
    }

    List<Integer> nightsSeen(int house, int garden) {
        List<Integer> list = new ArrayList<>();
        for (int k = 0; k < sights.size(); k++) {
            if (sights.get(k).get(house)[garden]) {
                list.add(k);
            }
        }
        return list;
    }

    int chance(long from, int pane, int hole, int n) {
        long before = last;
        last = from;
        int risk = counted(snap(pane, hole), 100, 0);
        int whole = 0;
        for (int k = 0; k < 10; k++) {
            int broken = 0;
            for (int i = 0; i < n; i++) {
                broken += breaks(risk) ? 1 : 0;
            }
            whole += broken == 0 ? 1 : 0;
        }
        last = before;
        return whole;
    }

    void keep(PlainModel copy) {
        copy.take(this);
        image = copy;
    }

    int back() {
        if (image == null) {
            return -1;
        }
        take(image);
        undo.clear();
        return night;
    }

    private void take(PlainModel other) {
        where = other.where.clone();
        night = other.night;
        last = other.last;
        moves = other.moves;
        paid = other.paid.clone();
        lit = other.lit.clone();
        sights = new ArrayList<>(other.sights);
    }

    // ---- orders: places of all panes, STORE for STORE and BROKEN

    int[] now() {
        int[] places = where.clone();
        for (int p = 0; p < places.length; p++) {
            places[p] = places[p] < 0 ? STORE : places[p];
        }
        return places;
    }

    List<int[]> orders() {
        List<int[]> all = new ArrayList<>();
        extend(new int[where.length], 0, all);
        return all;
    }

    private void extend(int[] places, int pane, List<int[]> all) {
        if (pane == places.length) {
            all.add(places.clone());
            return;
        }
        for (int hole = 0; hole <= STORE; hole++) {
            boolean may = hole == STORE;
            if (hole < holes.size() && where[pane] != -2) {
                may = fits(pane, hole);
                for (int p = 0; p < pane; p++) {
                    may &= places[p] != hole;
                }
            }
            if (may) {
                places[pane] = hole;
                extend(places, pane + 1, all);
            }
        }
    }

    static int apart(int[] a, int[] b) {
        int many = 0;
        for (int p = 0; p < a.length; p++) {
            many += a[p] == b[p] ? 0 : 1;
        }
        return many;
    }

    /** PLAN: its orders by NIGHT, and the MOVES under NIGHT -1; null: there is none. */
    Map<Integer, int[]> plan(int bits, int with) {
        List<Integer> when = new ArrayList<>();
        for (int f = 0; f < feasts.size(); f++) {
            if ((bits >> f & 1) != 0 && !when.contains(feasts.get(f).night())) {
                when.add(feasts.get(f).night());
            }
        }
        when.sort(null);
        Map<Integer, int[]> found = new HashMap<>();
        int sum = planFrom(now(), when, 0, bits, with, found, new HashMap<>());
        if (sum >= 1000) {
            return null;
        }
        found.put(-1, new int[] {sum});
        return found;
    }

    /** Tries every order for each NIGHT; of equal ones the first it comes to stays. */
    private int planFrom(int[] from, List<Integer> when, int k, int bits, int with,
            Map<Integer, int[]> found, Map<String, Object[]> done) {
        if (k == when.size()) {
            return 0;
        }
        String key = k + java.util.Arrays.toString(from);
        Object[] before = done.get(key);
        if (before != null) {
            @SuppressWarnings("unchecked")
            Map<Integer, int[]> orders = (Map<Integer, int[]>) before[1];
            found.putAll(orders);
            return (Integer) before[0];
        }
        int budget = k == 0 ? Math.max(0, with * (when.get(0) - night + 1) - moves)
            : with * (when.get(k) - when.get(k - 1));
        int best = 1000;
        Map<Integer, int[]> bestOrders = new HashMap<>();
        for (int[] order : orders()) {
            if (apart(from, order) > budget || !lightsAll(order, when.get(k), bits)) {
                continue;
            }
            Map<Integer, int[]> rest = new HashMap<>();
            int sum = apart(from, order) + planFrom(order, when, k + 1, bits, with, rest, done);
            if (sum < best) {
                best = sum;
                bestOrders = rest;
                bestOrders.put(when.get(k), order);
            }
        }
        done.put(key, new Object[] {best, bestOrders});
        found.putAll(bestOrders);
        return best;
    }

    private boolean lightsAll(int[] order, int when, int bits) {
        for (int f = 0; f < feasts.size(); f++) {
            Feast feast = feasts.get(f);
            if ((bits >> f & 1) != 0 && feast.night() == when
                    && lightOf(feast.house(), order) < feast.wants()) {
                return false;
            }
        }
        return true;
    }

    /** LEAST TAX: the order, and the sum in a last place. */
    int[] least(int when, int m) {
        int[] best = null;
        long bestKey = Long.MAX_VALUE;
        for (int[] order : orders()) {
            if (apart(now(), order) > m) {
                continue;
            }
            int sum = 0;
            for (int h = 0; h < houses.size(); h++) {
                sum += duePaid(h, order, when);
            }
            long key = sum * 10L + apart(now(), order);
            if (key < bestKey) {
                bestKey = key;
                best = java.util.Arrays.copyOf(order, order.length + 1);
                best[order.length] = sum;
            }
        }
        return best;
    }

    int most() {
        int most = 0;
        for (int[] order : orders()) {
            most = Math.max(most, (int) java.util.Arrays.stream(order).filter(h -> h != STORE).count());
        }
        return most;
    }

    /** SHUTTING by all sequences of HOLES: the sequence, and the cost in a last place. */
    List<Integer> shutting() {
        List<Integer> hung = new ArrayList<>();
        for (int hole = 0; hole < holes.size(); hole++) {
            if (paneIn(hole) >= 0) {
                hung.add(hole);
            }
        }
        List<Integer> best = new ArrayList<>();
        best.add(Integer.MAX_VALUE);
        shutOn(new ArrayList<>(), hung, 0, best);
        return best;
    }

    private void shutOn(List<Integer> done, List<Integer> left, int cost, List<Integer> best) {
        if (left.isEmpty()) {
            if (cost < best.get(best.size() - 1)) {
                best.clear();
                best.addAll(done);
                best.add(cost);
            }
            return;
        }
        for (int k = 0; k < left.size(); k++) {
            int hole = left.get(k);
            List<Integer> rest = new ArrayList<>(left);
            rest.remove(k);
            int harm = counted(harm(hole), 9999, panes.get(paneIn(hole)).size());
            int costs = done.size() * harm;
            done.add(hole);
            shutOn(done, rest, cost + costs, best);
            done.remove(done.size() - 1);
        }
    }

    // ---- complaints: {0 light | 1 sight | 2 strike, about, claim, is}

    int complain(int kind, int about, int claim, boolean is) {
        if (complaints.size() == 24) {
            return -1;
        }
        complaints.add(new int[] {kind, about, claim, is ? 1 : 0});
        return complaints.size() - 1;
    }

    int heard() {
        return known < 0 ? complaints.size() : known;
    }

    private boolean counts(int complaint) {
        for (int k = complaint + 1; k < heard(); k++) {
            if (complaints.get(k)[0] == 2 && complaints.get(k)[1] == complaint && counts(k)) {
                return false;
            }
        }
        return true;
    }

    List<int[]> tales() {
        List<int[]> all = orders();
        for (int k = 0; k < heard(); k++) {
            int[] c = complaints.get(k);
            if (c[0] != 2 && counts(k)) {
                all.removeIf(order -> c[0] == 0 ? lightOf(c[1], order) != c[2]
                    : sees(c[1], c[2], order) != (c[3] == 1));
            }
        }
        return all;
    }
}
