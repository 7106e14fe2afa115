/** Promises 27 to 31: best, take, castings, leave, never. */
public final class CastingTest {
    public static void main(String[] args) {
        errors();
        noParts();
        ways();
        ties();
        idle();
        fresh();
        evenestTie();
        take();
        castings();
        leave();
        never();
        Due.end();
    }

    private static void best(FivePlayers x, int way, int players, int sum, String who) {
        String call = "best(" + way + ", " + players + ", ";
        Due.is(call + "-1)", x.best(way, players, -1), sum);
        for (int part = 0; part < who.length(); part++) {
            Due.is(call + part + ")", x.best(way, players, part), who.charAt(part) - '0');
        }
    }

    /** Parts of one LINE each, far apart, so that none are barred. */
    private static FivePlayers apart(int parts, int players) {
        FivePlayers x = new FivePlayers();
        for (int part = 0; part < parts; part++) {
            x.part(0, 0);
            x.entry(part, part * 10, part * 10, 0);
        }
        for (int player = 0; player < players; player++) {
            x.player(5, 0);
        }
        return x;
    }

    private static void errors() {
        FivePlayers x = apart(2, 2);
        Due.is("way -1", x.best(-1, 3, -1), Due.BEYOND);
        Due.is("way 4", x.best(4, 3, -1), Due.BEYOND);
        Due.is("set -1", x.best(0, -1, -1), Due.BEYOND);
        Due.is("set 4", x.best(0, 4, -1), Due.BEYOND);
        Due.is("what -2", x.best(0, 3, -2), Due.BEYOND);
        Due.is("what 2", x.best(0, 3, 2), Due.BEYOND);
        Due.is("what 2, no casting", x.best(0, 0, 2), Due.BEYOND);
        Due.is("no casting", x.best(0, 0, 1), Due.NONE);
        Due.is("take, way 4", x.take(4, 3), Due.BEYOND);
        Due.is("take, way -1", x.take(-1, 3), Due.BEYOND);
        Due.is("take, set 4", x.take(0, 4), Due.BEYOND);
        Due.is("take, set -1", x.take(0, -1), Due.BEYOND);
        Due.is("take, no casting", x.take(0, 0), Due.NONE);
        Due.is("castings(4)", x.castings(4), Due.BEYOND);
        Due.is("castings(-1)", x.castings(-1), Due.BEYOND);
        Due.is("leave(4, 0)", x.leave(4, 0), Due.BEYOND);
        Due.is("leave(-1, 0)", x.leave(-1, 0), Due.BEYOND);
        Due.is("leave(3, 2)", x.leave(3, 2), Due.BEYOND);
        Due.is("leave(3, -1)", x.leave(3, -1), Due.BEYOND);
        Due.is("never(4, 0, 0)", x.never(4, 0, 0), Due.BEYOND);
        Due.is("never(-1, 0, 0)", x.never(-1, 0, 0), Due.BEYOND);
        Due.is("never(3, 2, 0)", x.never(3, 2, 0), Due.BEYOND);
        Due.is("never(3, -1, 0)", x.never(3, -1, 0), Due.BEYOND);
        Due.is("never(3, 0, 2)", x.never(3, 0, 2), Due.BEYOND);
        Due.is("never(3, 0, -1)", x.never(3, 0, -1), Due.BEYOND);
        Due.is("never(0, 0, 2), no casting", x.never(0, 0, 2), Due.BEYOND);
        Due.is("never(0, 0, 1), no casting", x.never(0, 0, 1), Due.NONE);
        Due.is("told(1)", x.told(1), 24);
        Due.is("told(2)", x.told(2), 3);
        Due.is("count(8)", x.count(8), 0);
    }

    private static void noParts() {
        FivePlayers x = apart(0, 2);
        for (int set = 0; set < 4; set++) {
            for (int way = 0; way < 4; way++) {
                best(x, way, set, 0, "");
                Due.is("take", x.take(way, set), 0);
            }
            Due.is("castings", x.castings(set), 1);
            Due.is("leave, WEIGHT", x.leave(set, 0), 0);
            Due.is("leave, which", x.leave(set, 1), 0);
            Due.is("never", x.never(set, 1, 0), 0);
            Due.is("in each", x.never(set, 1, 1), 0);
        }
        Due.is("best(0, 0, 0)", x.best(0, 0, 0), Due.BEYOND);
    }

    private static void ways() {
        FivePlayers x = new FivePlayers();
        x.part(0, 1000);
        x.part(0, 0);
        x.part(0, 0);
        x.part(0, 2000);
        x.entry(0, 0, 9, 0);
        x.entry(1, 5, 9, 0);
        x.entry(2, 20, 49, 0);
        x.entry(3, 60, 67, 0);
        x.player(1, 10);
        x.player(2, 20);
        x.player(8, 30);
        // 0 and 1 meet; PLAYER 0 can't play 3
        best(x, 0, 7, 26, "1222");
        Due.is("text(2)", Due.text(x, 2, "(a=10)*(l=30)*9+(a=30)*(l=5)*4+1"), 1);
        best(x, 0, 7, 17, "1202");
        best(x, 0, 3, 13, "0101");
        best(x, 0, 6, 8, "1222");
        best(x, 1, 7, 53, "1222");
        x.know(0, 2, true);
        x.know(1, 2, true);
        x.know(1, 0, true);
        x.know(2, 3, true);
        best(x, 1, 7, 5, "1212");
        best(x, 1, 3, 13, "1011");
        best(x, 1, 5, 15, "0202");
        best(x, 2, 7, 30, "0212");
        best(x, 2, 3, 35, "1001");
        best(x, 3, 7, 4, "1222");
        x.cast(3, 0);
        x.cast(2, 0);
        x.cast(0, 2);
        best(x, 3, 7, 2, "2102");
        best(x, 3, 6, 3, "2122");
        best(x, 3, 1, Due.NONE, "");
        // a wish for a third PART makes no casting of two that meet
        FivePlayers y = new FivePlayers();
        y.part(0, 0);
        y.part(0, 0);
        y.part(0, 0);
        y.entry(0, 0, 9, 0);
        y.entry(1, 0, 9, 0);
        y.player(9, 0);
        best(y, 0, 1, Due.NONE, "");
        y.part(0, 9000);
        y.player(8, 0);
        best(y, 0, 2, Due.NONE, "");
        best(y, 0, 3, 35, "0100");
    }

    private static void ties() {
        // all castings are as good: the first PLAYERS have nothing
        FivePlayers x = apart(3, 3);
        best(x, 0, 7, 15, "222");
        best(x, 0, 3, 15, "111");
        best(x, 0, 5, 15, "222");
        best(x, 1, 7, 3, "222");
        best(x, 3, 7, 3, "222");
        best(x, 2, 7, 1, "012");
        best(x, 2, 6, 2, "122");
    }

    /** The last of three can play nothing. */
    private static void idle() {
        FivePlayers x = new FivePlayers();
        x.part(0, 5000);
        x.part(0, 6000);
        x.entry(0, 0, 9, 0);
        x.entry(1, 5, 14, 0);
        x.player(6, 0);
        x.player(9, 0);
        x.player(4, 0);
        best(x, 0, 7, 15, "01");
        best(x, 2, 7, 10, "01");
        x.cast(0, 1);
        best(x, 3, 7, 1, "10");
    }

    /** None of these is asked first of what another call has left. */
    private static void fresh() {
        FivePlayers x = new FivePlayers();
        x.image();
        x.part(0, 3000);
        x.part(0, 0);
        x.player(3, 0);
        x.player(2, 0);
        never(x, 3, 1, 1, 0);
        Due.is("best(0, 1, -1)", x.best(0, 1, -1), 6);
        Due.is("restore()", x.restore(), 0);
        Due.is("best(0, 0, -1), no PARTS again", x.best(0, 0, -1), 0);
        FivePlayers y = new FivePlayers();
        y.part(0, 3000);
        y.player(2, 0);
        Due.is("never(1, 0, 1)", y.never(1, 0, 1), Due.NONE);
    }

    private static void evenestTie() {
        // 4, 3, 2, 1, 1 LINES for three: 4 at most
        FivePlayers x = new FivePlayers();
        int[] weights = {4, 3, 2, 1, 1};
        for (int part = 0; part < 5; part++) {
            x.part(0, 0);
            x.entry(part, part * 10, part * 10 + weights[part] - 1, 0);
        }
        x.player(0, 0);
        x.player(0, 0);
        x.player(0, 0);
        // {0} is least as bits that leaves 8 at most for two, then {1}
        best(x, 2, 7, 4, "01222");
        // {0, 2} is the first as bits that has 5 or 6
        best(x, 2, 3, 6, "01011");
    }

    private static void take() {
        FivePlayers x = apart(3, 2);
        x.cast(1, 0);
        Due.is("take(3, 3)", x.take(3, 3), 2);
        Due.is("cast(0)", x.cast(0, 0), 1);
        Due.is("cast(1)", x.cast(1, 0), 0);
        Due.is("cast(2)", x.cast(2, 0), 1);
        Due.is("count(8)", x.count(8), 3);
        Due.is("take(0, 0)", x.take(0, 0), Due.NONE);
        Due.is("cast(2), as it was", x.cast(2, 1), 0);
        Due.is("take(2, 1)", x.take(2, 1), 3);
        Due.is("cast(2), taken", x.cast(2, 1), 0);
    }

    private static void castings() {
        FivePlayers x = apart(10, 6);
        Due.is("castings(63)", x.castings(63), 60466176);
        Due.is("castings(62)", x.castings(62), 9765625);
        Due.is("castings(32)", x.castings(32), 1);
        Due.is("castings(0)", x.castings(0), 0);
        FivePlayers y = new FivePlayers();
        for (int part = 0; part < 5; part++) {
            y.part(0, part * 1000);
            y.entry(part, 0, 9, 0);
        }
        for (int player = 0; player < 5; player++) {
            y.player(4, 0);
        }
        Due.is("all meet, all can", y.castings(31), 120);
        Due.is("all meet, four of five", y.castings(15), 0);
        y.player(0, 0);
        Due.is("all meet, one can play one only", y.castings(63 - 1), 24);
        Due.is("all meet, six", y.castings(63), 120 + 5 * 24);
    }

    private static void leave() {
        FivePlayers x = new FivePlayers();
        int[] weights = {5, 5, 10, 3, 0};
        for (int part = 0; part < 5; part++) {
            x.part(0, part == 3 ? 9000 : 0);
            if (weights[part] > 0) {
                x.entry(part, 0, weights[part] - 1, 0);
            }
        }
        x.player(9, 0);
        x.player(0, 0);
        x.player(0, 0);
        leave(x, 0, 23, 31);
        leave(x, 1, 13, 11);
        leave(x, 2, 13, 11);
        leave(x, 3, 8, 9);
        leave(x, 6, 8, 9);
        leave(x, 7, 3, 8);
        x.player(0, 0);
        leave(x, 15, 0, 0);
        // the same WEIGHT: one of ten rather than two of five
        FivePlayers y = new FivePlayers();
        for (int part = 0; part < 3; part++) {
            y.part(0, 0);
        }
        y.entry(0, 0, 4, 0);
        y.entry(1, 20, 24, 0);
        y.entry(2, 4, 5, 0);
        y.entry(2, 13, 20, 0);
        y.player(0, 0);
        leave(y, 1, 10, 4);
        // 2 and 3, of one LINE each, meet
        FivePlayers z = apart(4, 1);
        z.shift(3, -10);
        leave(z, 1, 1, 4);
    }

    private static void leave(FivePlayers x, int players, int weight, int which) {
        Due.is("leave(" + players + ", 0)", x.leave(players, 0), weight);
        Due.is("leave(" + players + ", 1)", x.leave(players, 1), which);
    }

    private static void never() {
        FivePlayers x = new FivePlayers();
        x.part(0, 3000);
        x.part(0, 0);
        x.part(0, 0);
        x.entry(0, 0, 9, 0);
        x.entry(1, 0, 9, 0);
        x.player(3, 0);
        x.player(2, 0);
        x.player(1, 0);
        never(x, 3, 0, 2, 1);
        never(x, 3, 1, 1, 2);
        never(x, 3, 2, 7, 0);
        never(x, 7, 0, 2, 1);
        never(x, 7, 1, 1, 0);
        never(x, 7, 2, 1, 0);
        never(x, 1, 0, Due.NONE, Due.NONE);
        never(x, 1, 1, Due.NONE, Due.NONE);
        never(x, 6, 0, Due.NONE, Due.NONE);
        x.player(9, 0);
        never(x, 15, 0, 0, 0);
        never(x, 9, 0, 0, 0);
        never(x, 10, 3, 2, 1);
        never(x, 12, 2, 1, 2);
    }

    private static void never(FivePlayers x, int players, int player, int none, int each) {
        Due.is("never(" + players + ", " + player + ", 0)", x.never(players, player, 0), none);
        Due.is("never(" + players + ", " + player + ", 1)", x.never(players, player, 1), each);
    }
}
