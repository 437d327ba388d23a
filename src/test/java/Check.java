import java.math.BigInteger;
import java.util.NoSuchElementException;

/** What the tests of a face share: feeding texts, and telling answers that are not due. */
final class Check {
    /** What look() below answers for the two exceptions that the call throws. */
    static final int NO_PANE = -100;
    static final int NO_WHAT = -200;

    private final String about;
    private int wrong = 0;
    private int asked = 0;

    Check() {
        this("");
    }

    /** With words that stand ahead of each answer that is told. */
    Check(String about) {
        this.about = about;
    }

    void due(String call, long got, long want) {
        asked++;
        if (got != want) {
            wrong++;
            System.out.println(about + call + " answered " + got + ", due is " + want);
        }
    }

    void due(String call, boolean got, boolean want) {
        due(call, got ? 1L : 0L, want ? 1L : 0L);
    }

    /** Whether something was asked, and all answers were due. */
    boolean isRight() {
        return wrong == 0 && asked != 0;
    }

    /** Ends the test: with exit code 1 if an answer was wrong, or if nothing was asked. */
    void end() {
        if (!isRight()) {
            System.out.println(wrong + " of " + asked + " answers are not as due");
            System.exit(1);
        }
    }

    /** Feeds a text, blanks behind it up to twenty bytes, and answers what text() does. */
    static int tell(WindowLoans x, String text) {
        return tell(x, text, text.length());
    }

    static int tell(WindowLoans x, String text, int n) {
        for (int at = 0; at < text.length(); at += 20) {
            x.feed(four(text, at), four(text, at + 4), four(text, at + 8), four(text, at + 12),
                four(text, at + 16));
        }
        return x.text(n);
    }

    private static int four(String text, int at) {
        int bytes = 0;
        for (int k = at; k < at + 4; k++) {
            bytes = bytes << 8 | (k < text.length() ? text.charAt(k) & 255 : ' ');
        }
        return bytes;
    }

    static WindowLoans told(String text) {
        WindowLoans x = new WindowLoans();
        int lines = tell(x, text);
        if (lines < 0) {
            throw new IllegalStateException("fault " + x.fault(0) + " at " + x.fault(1) + ": " + text);
        }
        return x;
    }

    static int letters(String name) {
        int bits = 0;
        for (int k = 0; k < 6; k++) {
            bits = bits << 5 | (k < name.length() ? name.charAt(k) - 'a' + 1 : 0);
        }
        return bits;
    }

    static int look(WindowLoans x, int pane, int what) {
        try {
            return x.look(pane, what);
        } catch (IndexOutOfBoundsException e) {
            return NO_PANE;
        } catch (NoSuchElementException e) {
            return NO_WHAT;
        }
    }

    /** What the next number is drawn from: the last one times 1103515245 and 12345, in 31 bits. */
    static long drawnBehind(long last) {
        return BigInteger.valueOf(last).multiply(BigInteger.valueOf(1103515245)).add(BigInteger.valueOf(12345))
            .mod(BigInteger.ONE.shiftLeft(31)).longValueExact();
    }

    static int numberBehind(long last) {
        return (int) (drawnBehind(last) / 65536);
    }

    /** A seed by which the first number modulo 100 is this one. */
    static int seedOf(int number) {
        int seed = 0;
        while (numberBehind(seed) % 100 != number) {
            seed++;
        }
        return seed;
    }
}
