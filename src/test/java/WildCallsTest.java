import java.util.NoSuchElementException;
import java.util.Random;

/** No call throws, whatever its arguments, but look() what it says; and wrong ones change nothing. */
public final class WildCallsTest {
    private static final int[] EDGES = {Integer.MIN_VALUE, Integer.MIN_VALUE + 1, -65536, -33, -3, -2, -1, 0, 1, 2,
        3, 4, 5, 6, 7, 8, 9, 10, 15, 16, 20, 21, 23, 24, 25, 30, 31, 32, 33, 60, 61, 62, 63, 64, 255, 699, 700, 701,
        65536, 1 << 30, Integer.MAX_VALUE - 1, Integer.MAX_VALUE};
    private final Check check = new Check();
    private final Random random = new Random(7);
    private final RandomTexts texts = new RandomTexts(random);

    public static void main(String[] args) {
        WildCallsTest test = new WildCallsTest();
        for (int k = 0; k < 600; k++) {
            test.run();
        }
        test.check.end();
    }

    private int edge() {
        return EDGES[random.nextInt(random.nextBoolean() ? 16 : EDGES.length)];
    }

    private void run() {
        WindowLoans x = new WindowLoans();
        if (random.nextInt(5) != 0) {
            String text = texts.whole();
            Check.tell(x, text.substring(0, Math.min(700, text.length())));
        }
        for (int k = 0; k < 500; k++) {
            int which = random.nextInt(33);
            try {
                call(x, which);
            } catch (IndexOutOfBoundsException | NoSuchElementException e) {
                check.due("only look throws: " + which + " " + e, which, 4);
            } catch (RuntimeException e) {
                check.due("a call throws: " + which + " " + e, 0, 1);
            }
        }
        check.due("the state holds", x.count(5) >= 0 && x.count(5) <= 61 && x.count(11) >= 0
            && x.count(9) <= x.count(2) && x.count(7) <= x.count(6) && x.most() <= x.count(2) - x.count(9), true);
    }

    private void call(WindowLoans x, int which) {
        int a = edge();
        int b = edge();
        int c = edge();
        switch (which) {
            case 0 -> x.feed(random.nextInt(), a, b, c, random.nextInt());
            case 1 -> refused(random.nextInt(8) == 0 ? x.text(a) : 0);
            case 2 -> x.fault(a);
            case 3 -> x.named(a, b);
            case 4 -> x.look(a, b);
            case 5 -> x.hole(a, b);
            case 6 -> x.house(a, b);
            case 7 -> x.law(a, b, c);
            case 8 -> x.move(a, b);
            case 9 -> x.nights(random.nextInt(4) == 0 ? a : 0);
            case 10 -> x.feast(a);
            case 11 -> x.saw(a, b, c);
            case 12 -> x.plan(a);
            case 13 -> x.hangs(a, b, c);
            case 14 -> x.carriers(a);
            case 15 -> x.least(a, b, c);
            case 16 -> x.placed(a, b, c);
            case 17 -> x.most();
            case 18 -> x.shutting();
            case 19 -> x.shut(a);
            case 20 -> x.light(a, b);
            case 21 -> x.sight(a, b, c > 0);
            case 22 -> x.strike(a);
            case 23 -> x.known(a);
            case 24 -> x.tales();
            case 25 -> x.tale(a, b);
            case 26 -> x.sure(a);
            case 27 -> x.chance(a, b, c, edge());
            case 28 -> x.bird(a);
            case 29 -> x.undo();
            case 30 -> x.keep();
            case 31 -> x.back();
            default -> x.count(a);
        }
    }

    private void refused(int lines) {
        check.due("random bytes are no lines", lines <= 0, true);
    }
}
