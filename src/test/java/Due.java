import java.util.function.IntToLongFunction;

/** Compares answers with what is due, and ends a test with exit code 1 if one was wrong. */
final class Due {
    static final int BEYOND = -1000001;
    static final int NONE = -1000002;
    static final int STATE = -1000003;
    static final int FULL = -1000004;
    static final int KIND = -1000005;
    static final int MIN = Integer.MIN_VALUE;
    static final int MAX = Integer.MAX_VALUE;

    private static int wrong = 0;
    private static int asked = 0;
    /** The sentence that is tested now, told ahead of each wrong answer. */
    private static String about = "";
    /** How many sentences of each promise were tested; of the TERMS at 0. */
    private static final int[] SENTENCES = new int[Doc.PROMISES + 1];

    private Due() { }

    static void is(String call, long got, long want) {
        asked++;
        if (got != want) {
            wrong++;
            System.out.println(about + call + " answered " + got + ", due is " + want);
        }
    }

    /** What comes now tests this sentence of a promise: its words must stand there. */
    static void promise(int n, String words) {
        about = "";
        is("whether promise " + n + " says: " + words, Doc.says(n, words) ? 1 : 0, 1);
        about = "promise " + n + " (" + words + "): ";
        SENTENCES[n]++;
    }

    /** What comes now tests this sentence of the TERMS, by a promise that rests on it. */
    static void term(int n, String words) {
        about = "";
        is("whether the TERMS say: " + words, Doc.says(Doc.TERMS, words) ? 1 : 0, 1);
        about = "promise " + n + " (TERMS: " + words + "): ";
        SENTENCES[n]++;
    }

    static int sentences(int promise) {
        return SENTENCES[promise];
    }

    /** An argument may be low .. high: what comes next on both sides, and the ends of all ints, has an ERROR. */
    static void outside(String call, int low, int high, int error, IntToLongFunction act) {
        for (int v : new int[] {low - 1, high + 1, MIN, MAX}) {
            is(call + " with " + v, act.applyAsLong(v), error);
        }
    }

    static void end() {
        System.out.println(asked + " answers, " + wrong + " of them wrong");
        if (wrong != 0 || asked == 0) {
            System.exit(1);
        }
    }

    /** Feeds the signs of a text, eight at a time. */
    static void feed(FivePlayers x, String signs) {
        for (int i = 0; i < signs.length(); i += 8) {
            int n = Math.min(8, signs.length() - i);
            long word = 0;
            for (int j = 0; j < n; j++) {
                word |= (long) (signs.charAt(i + j) & 255) << (8 * j);
            }
            is("feed of " + signs, x.feed(word, n), i + n);
        }
    }

    /** Feeds a text, on an empty tape, and takes it for a use. */
    static int text(FivePlayers x, int use, String signs) {
        feed(x, signs);
        return x.text(use);
    }

    /** How often each error was answered so far, as one number of digits, for asking that no more were. */
    static long errors(FivePlayers x) {
        long all = 0;
        for (int k = 1; k <= 5; k++) {
            all = all * 1000 + x.told(k);
        }
        return all;
    }
}
