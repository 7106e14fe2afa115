import java.util.Random;

/**
 * Promises 27 to 29 and 31 on plays of ten PARTS and six PLAYERS: each casting is tried, one by one, up to 6 to the
 * 10th of them. What makes a casting (can, wish, two, WEIGHT, KNOW, THE CAST) is told by the calls that other tests
 * hold against the document.
 */
public final class BigCastingTest {
    private static final int PARTS = 10;
    private static final int PLAYERS = 6;
    private static final int WAYS = 4;
    private static final int MOVED = 3;

    private final FivePlayers x = new FivePlayers();
    private final int set;
    private final boolean[][] able = new boolean[PLAYERS][PARTS];
    private final int[][] wish = new int[PLAYERS][PARTS];
    private final int[][] learn = new int[PLAYERS][PARTS];
    private final int[] weight = new int[PARTS];
    private final int[] told = new int[PARTS];
    private final int[] barred = new int[PARTS];
    private final int[] share = new int[PLAYERS];
    private final int[] load = new int[PLAYERS];
    private long castings = 0;
    private final int[] bestSum = new int[WAYS];
    /** Shares in one number, PLAYER 0's in the highest bits, so that the least is THE BEST of several. */
    private final long[] bestShares = new long[WAYS];
    private long some = 0;
    private long each = -1;

    /** The more gifts and the fewer long entries, the more castings there are. */
    private BigCastingTest(int seed, int leastGift, int longest, int set) {
        Random random = new Random(seed);
        this.set = set;
        x.lines(200);
        for (int part = 0; part < PARTS; part++) {
            int need = longest == 0 ? 0 : random.nextInt(8);
            x.part(random.nextInt(3) + (part % 2 == 0 ? 0 : 2), need * 1000 + random.nextInt(3));
        }
        for (int player = 0; player < PLAYERS; player++) {
            x.player(leastGift + random.nextInt(10 - leastGift), player);
        }
        for (int entry = 0; entry < 2 * PARTS && longest > 0; entry++) {
            int from = random.nextInt(160);
            // a second one that has LINES in common with the first is refused
            x.entry(entry % PARTS, from, from + random.nextInt(longest), random.nextInt(4));
        }
        feed("g*l%7+k");
        x.text(2);
        for (int part = 0; part < PARTS; part++) {
            told[part] = random.nextInt(PLAYERS + 1) - 1;
            x.cast(part, told[part]);
            weight[part] = x.partIs(part, 4);
            for (int player = 0; player < PLAYERS; player++) {
                boolean knows = random.nextInt(3) == 0;
                x.know(player, part, knows);
                learn[player][part] = knows ? 0 : weight[part];
                wish[player][part] = x.wish(player, part);
                able[player][part] = x.can(player, part) == 1 && (set >> player & 1) != 0;
            }
            for (int other = 0; other < part; other++) {
                barred[part] |= x.two(part, other, 0) != 0 ? 1 << other : 0;
            }
        }
    }

    public static void main(String[] args) {
        long sum = new BigCastingTest(0, 9, 0, 63).run();
        Due.is("castings of all by all", sum, 60466176);
        for (int seed = 1; seed <= 12; seed++) {
            sum += new BigCastingTest(seed, 6, 10 + 10 * (seed % 4), seed % 5 == 0 ? 46 + seed : 63).run();
        }
        System.out.println(sum + " castings");
        Due.end();
    }

    private void feed(String signs) {
        for (int i = 0; i < signs.length(); i++) {
            x.feed(signs.charAt(i), 1);
        }
    }

    private long run() {
        tryAll(0, 0, 0, 0);
        Due.is("castings(" + set + ")", x.castings(set), castings);
        for (int way = 0; way < WAYS; way++) {
            String call = "best(" + way + ", " + set;
            Due.is(call + ", -1)", x.best(way, set, -1), castings == 0 ? Due.NONE : bestSum[way]);
            for (int part = 0; part < PARTS; part++) {
                Due.is(call + ", " + part + ")", x.best(way, set, part),
                        castings == 0 ? Due.NONE : playerOf(part, bestShares[way]));
            }
        }
        for (int player = 0; player < PLAYERS; player++) {
            String call = "never(" + set + ", " + player;
            Due.is(call + ", 0)", x.never(set, player, 0), castings == 0 ? Due.NONE : 1023 & ~of(player, some));
            Due.is(call + ", 1)", x.never(set, player, 1), castings == 0 ? Due.NONE : of(player, each));
        }
        return castings;
    }

    private static int of(int player, long shares) {
        return (int) (shares >> PARTS * (PLAYERS - 1 - player)) & 1023;
    }

    private static int playerOf(int part, long shares) {
        int player = 0;
        while ((of(player, shares) >> part & 1) == 0) {
            player++;
        }
        return player;
    }

    private void tryAll(int part, int wishes, int learned, int moved) {
        if (part == PARTS) {
            note(wishes, learned, moved);
            return;
        }
        for (int player = 0; player < PLAYERS; player++) {
            if (able[player][part] && (barred[part] & share[player]) == 0) {
                share[player] |= 1 << part;
                load[player] += weight[part];
                tryAll(part + 1, wishes + wish[player][part], learned + learn[player][part],
                        moved + (told[part] == player ? 0 : 1));
                share[player] &= ~(1 << part);
                load[player] -= weight[part];
            }
        }
    }

    private void note(int wishes, int learned, int moved) {
        long shares = 0;
        int greatest = 0;
        for (int player = 0; player < PLAYERS; player++) {
            shares = shares << PARTS | share[player];
            greatest = Math.max(greatest, load[player]);
        }
        note(0, -wishes, wishes, shares);
        note(1, learned, learned, shares);
        note(2, greatest, greatest, shares);
        note(MOVED, moved, moved, shares);
        castings++;
        some |= shares;
        each &= shares;
    }

    private void note(int way, int cost, int sum, long shares) {
        int best = way == 0 ? -bestSum[way] : bestSum[way];
        if (castings == 0 || cost < best || cost == best && shares < bestShares[way]) {
            bestSum[way] = sum;
            bestShares[way] = shares;
        }
    }
}
