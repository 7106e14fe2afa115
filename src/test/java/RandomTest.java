import java.util.Random;

/** Long runs of calls, right and wrong ones, on FivePlayers and on SlowPlayers: all answers must be the same. */
public final class RandomTest {
    private static final String[] METHODS = Calls.METHODS;
    private static final int RUNS = 400;
    /** The document promises nothing behind 512 calls; one step takes eight at most. */
    private static final int CALLS = 500;
    private static final int COUNT = Calls.place("count");
    private static final String[] NAMES = {"ganyk", "wvkqs", "ganykl"};

    private final Random random;
    private final FivePlayers x = new FivePlayers();
    private final SlowPlayers slow = new SlowPlayers();
    private final int mostParts;
    private final int mostPlayers;
    /** How long ENTRIES are: the longer, the fewer castings there are. */
    private final int longest;
    private final StringBuilder calls = new StringBuilder();
    private int used = 0;

    private RandomTest(int seed) {
        random = new Random(seed);
        mostPlayers = 1 + random.nextInt(6);
        mostParts = 4 + random.nextInt(7);
        longest = random.nextBoolean() ? 12 : 60;
    }

    public static void main(String[] args) {
        int runs = args.length > 0 ? Integer.parseInt(args[0]) : RUNS;
        int first = args.length > 1 ? Integer.parseInt(args[1]) : 0;
        for (int seed = first; seed < first + runs; seed++) {
            new RandomTest(seed).run(seed);
        }
        Due.end();
    }

    private void run(int seed) {
        for (int i = 0; used < CALLS; i++) {
            int method = i < 25 ? setUp(i) : random.nextInt(METHODS.length);
            if (isTooMuch(method)) {
                continue;
            }
            if (method == 12 && random.nextInt(5) != 0) {
                feedText(seed);
                continue;
            }
            if (!both(seed, method, random.nextLong(), arguments(method))) {
                System.out.println(calls);
                return;
            }
        }
    }

    /** SlowPlayers tries all castings, so where there are too many of them it isn't asked. */
    private boolean isTooMuch(int method) {
        int parts = count(1);
        int players = count(3);
        switch (METHODS[method]) {
            case "part": return parts >= mostParts && parts < 10;
            case "player": return players >= mostPlayers && players < 6;
            case "best": case "take": case "castings": case "never": case "check":
                used++;
                return x.castings((1 << players) - 1) > 5000;
            case "leave": return parts > 7 && players > 2 || parts > 5 && players > 4;
            default: return false;
        }
    }

    private int setUp(int i) {
        int[] first = {0, 8, 8, 8, 1, 4, 4, 1, 4, 4, 1, 4, 4, 1, 4, 4, 1, 4, 4, 1, 4, 4, 8, 8, 9};
        return first[i % first.length];
    }

    /** SlowPlayers is asked, so that it is no call of the object that is tested. */
    private int count(int what) {
        return (int) slow.call(COUNT, 0, what);
    }

    private boolean both(int seed, int method, long word, int[] a) {
        StringBuilder call = new StringBuilder(METHODS[method]);
        call.append('(').append(method == 12 ? word + "L, " : "");
        for (int arg : a) {
            call.append(arg).append(' ');
        }
        call.append(')');
        calls.append(call).append('\n');
        used++;
        long want = slow.call(method, word, a);
        long got = Calls.call(x, method, word, a);
        Due.is("run " + seed + ": " + call, got, want);
        return got == want;
    }

    private void feedText(int seed) {
        int use = random.nextInt(3);
        StringBuilder text = new StringBuilder();
        grow(text, use, 3);
        if (random.nextInt(2) == 0) {
            spoil(text);
        }
        text.setLength(Math.min(text.length(), 50));
        for (int i = 0; i < text.length(); i += 8) {
            int n = Math.min(8, text.length() - i);
            long word = random.nextLong() << 32 << 31;
            for (int j = 0; j < n; j++) {
                word &= ~(255L << 8 * j);
                word |= (long) text.charAt(i + j) << 8 * j;
            }
            both(seed, 12, word, new int[] {n});
        }
        both(seed, 13, 0, new int[] {use});
    }

    private void grow(StringBuilder text, int use, int deep) {
        int kind = random.nextInt(deep > 0 ? 9 : 3);
        if (kind < 1) {
            text.append(random.nextInt(random.nextBoolean() ? 12000 : 12));
        } else if (kind < 3) {
            text.append(NAMES[use].charAt(random.nextInt(NAMES[use].length())));
        } else if (kind == 3) {
            text.append('!');
            grow(text, use, deep - 1);
        } else if (kind == 4) {
            text.append('(');
            grow(text, use, deep - 1);
            text.append(')');
        } else {
            grow(text, use, deep - 1);
            text.append("|&<=>+-*/%".charAt(random.nextInt(10)));
            grow(text, use, deep - 1);
        }
    }

    private void spoil(StringBuilder text) {
        String signs = "|&<=>+-*/%!!!((()))0123456789ganyklwvqs \0\377";
        for (int i = random.nextInt(4); i >= 0; i--) {
            int place = random.nextInt(text.length() + 1);
            char sign = signs.charAt(random.nextInt(signs.length()));
            if (random.nextInt(3) != 0 || place == text.length()) {
                text.insert(place, sign);
            } else {
                text.deleteCharAt(place);
                text.append(text.length() == 0 ? "1" : "");
            }
        }
    }

    /** Mostly within 0 .. n - 1. */
    private int in(int n) {
        int chance = random.nextInt(40);
        if (chance == 0) {
            return new int[] {-1, n, n + 1, Integer.MAX_VALUE, Integer.MIN_VALUE, -2}[random.nextInt(6)];
        }
        return random.nextInt(Math.max(1, n));
    }

    private int aPart() {
        return in(count(1));
    }

    private int aPlayer() {
        return in(count(3));
    }

    private int anEntry() {
        return in(count(2));
    }

    private int aSet() {
        int all = 1 << count(3);
        return random.nextInt(3) == 0 ? all - 1 : in(all);
    }

    private int[] arguments(int method) {
        switch (METHODS[method]) {
            case "lines": return new int[] {random.nextInt(4) == 0 ? in(202) : 60 + in(141)};
            case "part": return new int[] {in(6), in(10000) % (random.nextBoolean() ? 4000 : 10000)};
            case "as": return new int[] {aPart(), in(6)};
            case "partIs": return new int[] {aPart(), in(6)};
            case "entry": return anEntryToBe();
            case "entryIs": return new int[] {anEntry(), in(4)};
            case "shift": case "helps": return new int[] {anEntry(), in(61) - 30};
            case "on": return new int[] {in(count(0))};
            case "player": return new int[] {random.nextInt(3) == 0 ? 9 : in(10), in(100)};
            case "know": return new int[] {aPlayer(), aPart(), in(2)};
            case "can": case "wish": return new int[] {aPlayer(), aPart()};
            case "feed": return new int[] {1 + in(8)};
            case "text": case "block": return new int[] {in(4)};
            case "change": case "two": return new int[] {aPart(), aPart(), in(2)};
            case "cast": return new int[] {aPart(), random.nextInt(4) == 0 ? -1 : aPlayer()};
            case "bars": return new int[] {in(4)};
            case "busy": return new int[] {aPlayer()};
            case "group": case "without": return new int[] {aPart()};
            case "best": return new int[] {in(4), aSet(), random.nextInt(3) == 0 ? -1 : aPart()};
            case "take": return new int[] {in(4), aSet()};
            case "castings": return new int[] {aSet()};
            case "leave": return new int[] {aSet(), in(2)};
            case "never": return new int[] {aSet(), aPlayer(), in(2)};
            case "voice": return new int[] {aPart(), in(4), random.nextInt() >> random.nextInt(32)};
            case "trace": return new int[] {in(count(6))};
            case "sheet": return new int[] {in(4), in(5) * 8, random.nextInt(10) - 1};
            case "put": return new int[] {in(4), in(6), random.nextInt(5) == 0 ? random.nextInt() : in(6) - 1};
            case "move": return new int[] {in(4), in(4), in(4), in(4), in(5)};
            case "tell": return new int[] {aPlayer()};
            case "check": return new int[] {in(4)};
            case "count": return new int[] {in(9)};
            case "told": return new int[] {1 + in(5)};
            default: return new int[0];
        }
    }

    private int[] anEntryToBe() {
        int from = in(count(0));
        int to = random.nextInt(30) == 0 ? in(count(0)) : (int) Math.min(Integer.MAX_VALUE, from + (long) in(longest));
        return new int[] {aPart(), from, to, in(4)};
    }
}
