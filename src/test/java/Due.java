/** Compares answers with what is due, and ends a test with exit code 1 if one was wrong. */
final class Due {
    static final int BEYOND = -1000001;
    static final int NONE = -1000002;
    static final int STATE = -1000003;
    static final int FULL = -1000004;
    static final int KIND = -1000005;

    private static int wrong = 0;
    private static int asked = 0;

    private Due() { }

    static void is(String call, long got, long want) {
        asked++;
        if (got != want) {
            wrong++;
            System.out.println(call + " answered " + got + ", due is " + want);
        }
    }

    static void end() {
        System.out.println(asked + " answers, " + wrong + " of them wrong");
        if (wrong != 0 || asked == 0) {
            System.exit(1);
        }
    }

    /** Feeds the signs of a text, eight at a time. */
    static void feed(FivePlayers x, String signs) {
        for (int i = 0; i < signs.length(); i += 8) {
            int n = Math.min(8, signs.length() - i);
            long word = 0;
            for (int j = 0; j < n; j++) {
                word |= (long) (signs.charAt(i + j) & 255) << (8 * j);
            }
            is("feed of " + signs, x.feed(word, n), i + n);
        }
    }

    /** Feeds a text, on an empty tape, and takes it for a use. */
    static int text(FivePlayers x, int use, String signs) {
        feed(x, signs);
        return x.text(use);
    }

    /** How often each error was answered so far, as one number of digits, for asking that no more were. */
    static long errors(FivePlayers x) {
        long all = 0;
        for (int k = 1; k <= 5; k++) {
            all = all * 1000 + x.told(k);
        }
        return all;
    }
}
