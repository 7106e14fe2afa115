/** Promises 39 to 42: tell, check, count, told. */
public final class ToldTest {
    public static void main(String[] args) {
        tell();
        check();
        checkWays();
        count();
        told();
        Due.end();
    }

    private static void tell() {
        FivePlayers x = new FivePlayers();
        for (int i = 1; i <= 20; i++) {
            Due.is("tell", x.tell(Integer.MIN_VALUE), i);
        }
        Due.is("tell, 20 wait", x.tell(0), Due.FULL);
        Due.is("count(5)", x.count(5), 20);
    }

    private static void waiting(FivePlayers x, int... numbers) {
        for (int number : numbers) {
            x.tell(number);
        }
    }

    private static void check() {
        FivePlayers x = new FivePlayers();
        Due.is("check(0), no PARTS", x.check(0), 0);
        x.tell(0);
        Due.is("check(0), a number for no PART", x.check(0), 1);
        x.part(0, 5000);
        x.part(0, 0);
        x.part(0, 9000);
        waiting(x, 0, 0);
        Due.is("check(0), no PLAYERS", x.check(0), Due.NONE);
        Due.is("count(5)", x.count(5), 0);
        x.player(5, 0);
        x.player(3, 0);
        waiting(x, 1);
        Due.is("check(0), nobody can", x.check(0), Due.NONE);
        Due.is("count(5)", x.count(5), 0);
        x.player(9, 0);
        // 9 each by PLAYER 2
        waiting(x, 2, 2, 2);
        Due.is("check(0), so", x.check(0), 0);
        Due.is("count(5)", x.count(5), 0);
        waiting(x, 2, 2);
        Due.is("check(0), fewer", x.check(0), 0);
        Due.is("check(0), none", x.check(0), 0);
        waiting(x, 2, 1, 1);
        Due.is("check(0), the second", x.check(0), 2);
        waiting(x, 2, 2, 2, 2);
        Due.is("check(0), one for no PART", x.check(0), 4);
        waiting(x, 0, 2, 2, 2);
        Due.is("check(0), the first", x.check(0), 1);
        waiting(x, 2, 2, 2);
        Due.is("check(4)", x.check(4), Due.BEYOND);
        Due.is("count(5)", x.count(5), 0);
        waiting(x, 2);
        Due.is("check(-1)", x.check(-1), Due.BEYOND);
        Due.is("count(5)", x.count(5), 0);
    }

    private static void checkWays() {
        FivePlayers x = new FivePlayers();
        x.part(0, 0);
        x.part(0, 0);
        x.entry(0, 0, 4, 0);
        x.entry(1, 50, 59, 0);
        x.player(5, 0);
        x.player(4, 0);
        x.know(0, 0, true);
        x.cast(0, 0);
        x.cast(1, 0);
        String[] due = {"00", "01", "01", "00"};
        for (int way = 0; way < 4; way++) {
            waiting(x, due[way].charAt(0) - '0', due[way].charAt(1) - '0');
            Due.is("check(" + way + ")", x.check(way), 0);
        }
    }

    private static void count() {
        FivePlayers x = new FivePlayers();
        Due.is("count(9)", x.count(9), Due.BEYOND);
        Due.is("count(-1)", x.count(-1), Due.BEYOND);
        x.lines(30);
        x.part(0, 0);
        x.part(0, 0);
        x.part(0, 0);
        x.player(0, 0);
        x.player(0, 0);
        x.entry(0, 0, 0, 0);
        Due.text(x, 1, "1");
        Due.feed(x, "12345");
        x.tell(0);
        x.tell(0);
        x.tell(0);
        x.tell(0);
        x.voice(1, 3, 0);
        x.cast(0, 0);
        x.cast(2, 0);
        int[] due = {30, 3, 1, 2, 5, 4, 4, 1, 2};
        for (int what = 0; what < due.length; what++) {
            Due.is("count(" + what + ")", x.count(what), due[what]);
        }
    }

    private static void told(FivePlayers x, int... due) {
        for (int k = 1; k <= 5; k++) {
            Due.is("told(" + k + ")", x.told(k), due[k - 1]);
        }
    }

    private static void told() {
        FivePlayers x = new FivePlayers();
        told(x, 0, 0, 0, 0, 0);
        Due.is("told(0)", x.told(0), Due.BEYOND);
        Due.is("told(6)", x.told(6), Due.BEYOND);
        Due.is("told(-1)", x.told(-1), Due.BEYOND);
        told(x, 3, 0, 0, 0, 0);
        Due.is("castings(1)", x.castings(1), Due.BEYOND);
        told(x, 4, 0, 0, 0, 0);
        x.trace(0);
        x.restore();
        told(x, 4, 2, 0, 0, 0);
        x.sheet(0, 8, -1);
        told(x, 4, 2, 1, 0, 0);
        x.part(1, 0);
        x.as(0, 2);
        told(x, 4, 2, 1, 0, 1);
        for (int i = 0; i < 22; i++) {
            x.tell(i);
        }
        told(x, 4, 2, 1, 2, 1);
        // a fault is no ERROR
        Due.is("text(0)", x.text(0), -10);
        told(x, 4, 2, 1, 2, 1);
    }
}
