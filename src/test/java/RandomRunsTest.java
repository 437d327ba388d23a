import java.util.ArrayList;
import java.util.List;
import java.util.Map;
import java.util.Random;

/** Promises 6 to 34: calls by chance on terraces by chance, each held against the plain model. */
public final class RandomRunsTest {
    private final Check check = new Check();
    private final Random random = new Random(34);
    private final RandomTexts texts = new RandomTexts(random);
    private WindowLoans x;
    private PlainModel m;
    private String text;
    private String story;
    private int plans = 0;
    private int lacking = 0;

    public static void main(String[] args) {
        RandomRunsTest test = new RandomRunsTest();
        for (int k = 0; k < 1500; k++) {
            test.run();
        }
        test.check.due("plans were found, and were not", test.plans > 100 && test.lacking > 100, true);
        test.check.end();
    }

    private void run() {
        m = null;
        while (m == null) {
            text = texts.whole();
            m = model(text);
        }
        x = x == null || random.nextInt(3) == 0 ? new WindowLoans() : x;
        story = text;
        due("text", Check.tell(x, text), m.lines);
        for (int k = 0; k < 60; k++) {
            act();
            if (k % 6 == 0) {
                askAll();
            }
        }
    }

    /** Null if the text is too long, or has a FAULT after all (too many KNOTS, say). */
    private static PlainModel model(String text) {
        try {
            return text.length() > 700 ? null : new PlainModel(text);
        } catch (PlainModel.Fault fault) {
            return null;
        }
    }

    private void due(String call, long got, long want) {
        check.due(story + ": " + call, got, want);
    }

    /** A number, now and then one that is beyond what there is. */
    private int any(int most) {
        return random.nextInt(8) == 0 ? random.nextInt(most + 4) - 2 : random.nextInt(Math.max(1, most));
    }

    private void act() {
        int a = any(4);
        int b = any(6);
        switch (random.nextInt(14)) {
            case 0, 1, 2, 3, 4 -> {
                b = random.nextInt(3) == 0 ? -1 : b;
                told("move(" + a + ", " + b + ")", x.move(a, b), m.move(a, b));
            }
            case 5 -> {
                if (random.nextInt(3) == 0) {
                    told("bird(" + b + ")", x.bird(b), m.bird(b));
                }
            }
            case 6 -> told("undo()", x.undo(), m.undo());
            case 7 -> {
                int n = random.nextInt(6) == 0 ? any(70) : random.nextInt(3);
                told("nights(" + n + ")", x.nights(n), m.nights(n));
            }
            case 8 -> {
                m.keep(new PlainModel(text));
                told("keep()", x.keep(), m.night);
            }
            case 9 -> told("back()", x.back(), m.back());
            default -> complain();
        }
    }

    private void told(String call, int got, int want) {
        story = story + "|" + call + "=" + want;
        due("", got, want);
    }

    private void complain() {
        int houses = m.houses.size();
        int a = any(houses);
        int b = any(houses);
        boolean there = a >= 0 && a < houses;
        switch (random.nextInt(5)) {
            case 0 -> {
                int many = random.nextInt(4) == 0 ? any(7) : random.nextInt(3);
                boolean right = there && many >= 0 && many <= 6;
                told("light(" + a + ", " + many + ")", x.light(a, many),
                    right ? m.complain(0, a, many, true) : -1);
            }
            case 1 -> {
                boolean is = random.nextBoolean();
                boolean right = there && b >= 0 && b < houses;
                told("sight(" + a + ", " + b + ", " + is + ")", x.sight(a, b, is),
                    right ? m.complain(1, a, b, is) : -1);
            }
            case 2, 3 -> {
                int c = any(m.complaints.size());
                boolean right = c >= 0 && c < m.complaints.size();
                told("strike(" + c + ")", x.strike(c), right ? m.complain(2, c, 0, true) : -1);
            }
            default -> {
                int n = random.nextInt(2) == 0 ? -1 : any(m.complaints.size() + 1);
                boolean right = n >= -1 && n <= m.complaints.size();
                m.known = right ? n : m.known;
                told("known(" + n + ")", x.known(n) ? 1 : 0, right ? 1 : 0);
            }
        }
    }

    private void askAll() {
        askCounts();
        askPanes();
        askHolesAndHouses();
        askPlans();
        askTax();
        askShutting();
        askTales();
    }

    private void askCounts() {
        int broken = 0;
        for (int place : m.where) {
            broken += place == -2 ? 1 : 0;
        }
        int paid = 0;
        for (int sum : m.paid) {
            paid += sum;
        }
        int[] want = {m.houses.size(), m.holes.size(), m.panes.size(), m.feasts.size(), m.knots, m.night,
            m.complaints.size(), m.heard(), m.undo.size(), broken, paid, m.moves};
        for (int k = 0; k < want.length; k++) {
            due("count(" + k + ")", x.count(k), want[k]);
        }
        for (int f = 0; f < m.feasts.size(); f++) {
            due("feast(" + f + ")", x.feast(f),
                m.feasts.get(f).night() >= m.night ? -2 : m.lit[f] ? 1 : 0);
        }
    }

    private void askPanes() {
        for (int p = 0; p < m.where.length; p++) {
            int fits = 0;
            for (int h = 0; h < m.holes.size(); h++) {
                boolean fit = m.fits(p, h);
                fits |= fit ? 1 << h : 0;
                Long snap = m.where[p] == -2 ? null : m.snap(p, h);
                due("law(1, " + p + ", " + h + ")", x.law(1, p, h), snap == null ? Long.MIN_VALUE : snap);
                int n = 1 + random.nextInt(20);
                int seed = random.nextInt() & 0x7fffffff;
                due("chance(" + seed + ", " + p + ", " + h + ", " + n + ")", x.chance(seed, p, h, n),
                    m.where[p] == -2 || !fit ? -1 : m.chance(seed, p, h, n));
            }
            due("look(" + p + ", 0)", x.look(p, 0), m.where[p]);
            due("look(" + p + ", 1)", x.look(p, 1), m.panes.get(p).size());
            due("look(" + p + ", 2)", x.look(p, 2), fits);
        }
    }

    private void askHolesAndHouses() {
        for (int h = 0; h < m.holes.size(); h++) {
            due("hole(" + h + ", 0)", x.hole(h, 0), m.holes.get(h).house());
            due("hole(" + h + ", 1)", x.hole(h, 1), m.holes.get(h).size());
            due("hole(" + h + ", 2)", x.hole(h, 2), m.holes.get(h).garden());
            due("hole(" + h + ", 3)", x.hole(h, 3), m.paneIn(h));
            Long harm = m.paneIn(h) < 0 ? null : m.harm(h);
            due("law(2, " + h + ", 0)", x.law(2, h, 0), harm == null ? Long.MIN_VALUE : harm);
        }
        for (int h = 0; h < m.houses.size(); h++) {
            int seen = 0;
            for (int g = 0; g < m.houses.size(); g++) {
                seen |= m.sees(h, g, m.where) ? 1 << g : 0;
                List<Integer> when = m.nightsSeen(h, g);
                due("saw(" + h + ", " + g + ", -1)", x.saw(h, g, -1), when.size());
                int k = random.nextInt(when.size() + 2);
                due("saw(" + h + ", " + g + ", " + k + ")", x.saw(h, g, k), k < when.size() ? when.get(k) : -2);
            }
            due("house(" + h + ", 0)", x.house(h, 0), m.lightOf(h, m.where));
            due("house(" + h + ", 1)", x.house(h, 1), seen);
            due("house(" + h + ", 2)", x.house(h, 2), m.paid[h]);
            due("house(" + h + ", 3)", x.house(h, 3), m.duePaid(h, m.where, m.night));
            Long due = m.due(h, m.where, m.night);
            due("law(0, " + h + ", 9)", x.law(0, h, 9), due == null ? Long.MIN_VALUE : due);
        }
    }

    private void askPlans() {
        int bits = random.nextInt(1 << m.feasts.size());
        boolean ahead = true;
        for (int f = 0; f < m.feasts.size(); f++) {
            ahead &= (bits >> f & 1) == 0 || m.feasts.get(f).night() >= m.night;
        }
        if (!ahead || m.orders().size() > 400 && random.nextInt(10) != 0) {
            due("plan(" + bits + ")", x.plan(bits), ahead ? x.plan(bits) : -1);
            return;
        }
        Map<Integer, int[]> plan = m.plan(bits, m.carriers);
        plans += plan != null && bits != 0 ? 1 : 0;
        lacking += plan == null ? 1 : 0;
        due("plan(" + bits + ")", x.plan(bits), plan == null ? -2 : plan.get(-1)[0]);
        for (int f = 0; f < m.feasts.size(); f++) {
            for (int p = 0; p < m.where.length; p++) {
                int want = plan == null ? -3 : -1;
                if ((bits >> f & 1) == 0) {
                    want = -1;
                } else if (plan != null) {
                    want = away(plan.get(m.feasts.get(f).night())[p]);
                }
                due("hangs(" + bits + ", " + f + ", " + p + ")", x.hangs(bits, f, p), want);
            }
        }
        if (m.orders().size() <= 200) {
            int with = 0;
            while (with <= 9 && m.plan(bits, with) == null) {
                with++;
            }
            due("carriers(" + bits + ")", x.carriers(bits), with > 9 ? -2 : with);
        }
    }

    private static int away(int place) {
        return place == PlainModel.STORE ? -2 : place;
    }

    private void askTax() {
        int night = random.nextInt(61);
        int moves = random.nextInt(10) < 8 ? random.nextInt(4) : random.nextInt(10);
        int[] best = m.least(night, moves);
        String call = "(" + night + ", " + moves + ", ";
        int panes = m.where.length;
        due("most()", x.most(), m.most());
        int[] order = java.util.Arrays.copyOf(best, panes);
        for (int p = 0; p < panes; p++) {
            due("placed" + call + p + ")", x.placed(night, moves, p), away(order[p]));
        }
        due("least" + call + "0)", x.least(night, moves, 0), best[panes]);
        due("least" + call + "1)", x.least(night, moves, 1), PlainModel.apart(order, m.now()));
    }

    private void askShutting() {
        List<Integer> best = m.shutting();
        int many = best.size() - 1;
        for (int k = 0; k <= many; k++) {
            due("shut(" + k + ")", x.shut(k), k < many ? best.get(k) : -2);
        }
        due("shutting()", x.shutting(), best.get(many));
    }

    private void askTales() {
        List<int[]> tales = m.tales();
        List<Integer> asked = new ArrayList<>(List.of(0, tales.size() - 1, tales.size()));
        asked.add(random.nextInt(tales.size() + 1));
        // last pane first, and sure ahead of tales or the other way round, for no call may lean on another
        boolean sureFirst = random.nextBoolean();
        for (int p = m.where.length - 1; p >= 0; p--) {
            if (sureFirst) {
                askSure(tales, p);
            }
            for (int k : asked) {
                int want = k < 0 ? -1 : k >= tales.size() ? -3 : away(tales.get(k)[p]);
                due("tale(" + k + ", " + p + ")", x.tale(k, p), want);
            }
            askSure(tales, p);
        }
        due("tales()", x.tales(), tales.size());
    }

    private void askSure(List<int[]> tales, int p) {
        int sure = tales.isEmpty() ? -3 : away(tales.get(0)[p]);
        for (int[] tale : tales) {
            sure = away(tale[p]) == sure ? sure : -3;
        }
        due("sure(" + p + ")", x.sure(p), sure);
    }
}
