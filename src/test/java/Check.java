/** What the tests of a face share: feeding texts, and telling answers that are not due. */
final class Check {
    private int wrong = 0;
    private int asked = 0;

    void due(String call, long got, long want) {
        asked++;
        if (got != want) {
            wrong++;
            System.out.println(call + " answered " + got + ", due is " + want);
        }
    }

    void due(String call, boolean got, boolean want) {
        due(call, got ? 1L : 0L, want ? 1L : 0L);
    }

    /** Ends the test: with exit code 1 if an answer was wrong, or if nothing was asked. */
    void end() {
        if (wrong != 0 || asked == 0) {
            System.out.println(wrong + " of " + asked + " answers are not as due");
            System.exit(1);
        }
    }

    /** Feeds a text, blanks behind it up to twenty bytes, and answers what text() does. */
    static int tell(WindowLoans x, String text) {
        return tell(x, text, text.length());
    }

    static int tell(WindowLoans x, String text, int n) {
        for (int at = 0; at < text.length(); at += 20) {
            x.feed(four(text, at), four(text, at + 4), four(text, at + 8), four(text, at + 12),
                four(text, at + 16));
        }
        return x.text(n);
    }

    private static int four(String text, int at) {
        int bytes = 0;
        for (int k = at; k < at + 4; k++) {
            bytes = bytes << 8 | (k < text.length() ? text.charAt(k) & 255 : ' ');
        }
        return bytes;
    }

    static WindowLoans told(String text) {
        WindowLoans x = new WindowLoans();
        int lines = tell(x, text);
        if (lines < 0) {
            throw new IllegalStateException("fault " + x.fault(0) + " at " + x.fault(1) + ": " + text);
        }
        return x;
    }

    static int letters(String name) {
        int bits = 0;
        for (int k = 0; k < 6; k++) {
            bits = bits << 5 | (k < name.length() ? name.charAt(k) - 'a' + 1 : 0);
        }
        return bits;
    }
}
