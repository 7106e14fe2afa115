/** Promises 10 to 13: player, know, can, wish. */
public final class PlayerTest {
    public static void main(String[] args) {
        player();
        know();
        can();
        wish();
        Due.end();
    }

    private static void player() {
        FivePlayers x = new FivePlayers();
        Due.is("player(-1, 0)", x.player(-1, 0), Due.BEYOND);
        Due.is("player(10, 0)", x.player(10, 0), Due.BEYOND);
        Due.is("player(0, -1)", x.player(0, -1), Due.BEYOND);
        Due.is("player(0, 100)", x.player(0, 100), Due.BEYOND);
        for (int i = 0; i < 6; i++) {
            Due.is("player", x.player(i == 0 ? 9 : 0, i == 0 ? 99 : 0), i);
        }
        Due.is("player(0, 100), full", x.player(0, 100), Due.BEYOND);
        Due.is("player(0, 0), full", x.player(0, 0), Due.FULL);
        Due.is("count(3)", x.count(3), 6);
    }

    private static void know() {
        FivePlayers x = new FivePlayers();
        x.part(0, 0);
        x.part(0, 0);
        x.player(0, 0);
        x.entry(0, 0, 9, 0);
        x.entry(1, 40, 44, 0);
        Due.is("know(1, 0)", x.know(1, 0, true), Due.BEYOND);
        Due.is("know(-1, 0)", x.know(-1, 0, true), Due.BEYOND);
        Due.is("know(0, 2)", x.know(0, 2, true), Due.BEYOND);
        Due.is("know(0, -1)", x.know(0, -1, true), Due.BEYOND);
        Due.is("to learn, none known", x.best(1, 1, -1), 15);
        Due.is("know not, none known", x.know(0, 1, false), 0);
        Due.is("know", x.know(0, 1, true), 1);
        Due.is("know again", x.know(0, 1, true), 0);
        Due.is("to learn, 1 known", x.best(1, 1, -1), 10);
        Due.is("know the other", x.know(0, 0, true), 1);
        Due.is("to learn, all known", x.best(1, 1, -1), 0);
        Due.is("know not", x.know(0, 1, false), 1);
        Due.is("to learn, 0 known", x.best(1, 1, -1), 5);
    }

    private static void can() {
        FivePlayers x = new FivePlayers();
        x.part(5, 4301);
        x.part(2, 0);
        x.player(4, 20);
        x.player(3, 30);
        Due.is("can(0, 0)", x.can(0, 0), 1);
        Due.is("can(1, 0)", x.can(1, 0), 0);
        Due.is("can(1, 1)", x.can(1, 1), 1);
        Due.is("can(2, 0)", x.can(2, 0), Due.BEYOND);
        Due.is("can(-1, 0)", x.can(-1, 0), Due.BEYOND);
        Due.is("can(0, 2)", x.can(0, 2), Due.BEYOND);
        Due.is("can(0, -1)", x.can(0, -1), Due.BEYOND);
        can(x, "g=4", 1, 0, 1, 0);
        can(x, "a=30", 0, 1, 0, 1);
        can(x, "n=4", 1, 1, 0, 0);
        can(x, "y=30", 1, 1, 0, 0);
        can(x, "k=2", 0, 0, 1, 1);
        can(x, "0-5", 1, 1, 1, 1);
        can(x, "a-y", 1, 0, 1, 1);
    }

    private static void can(FivePlayers x, String text, int a, int b, int c, int d) {
        Due.is("text(0) of " + text, Due.text(x, 0, text), 1);
        Due.is("can(0, 0) by " + text, x.can(0, 0), a);
        Due.is("can(1, 0) by " + text, x.can(1, 0), b);
        Due.is("can(0, 1) by " + text, x.can(0, 1), c);
        Due.is("can(1, 1) by " + text, x.can(1, 1), d);
    }

    private static void wish() {
        FivePlayers x = new FivePlayers();
        x.part(4, 4301);
        x.entry(0, 0, 6, 0);
        x.entry(0, 10, 19, 0);
        x.player(7, 25);
        Due.is("wish(0, 0)", x.wish(0, 0), 7);
        Due.is("wish(1, 0)", x.wish(1, 0), Due.BEYOND);
        Due.is("wish(-1, 0)", x.wish(-1, 0), Due.BEYOND);
        Due.is("wish(0, 1)", x.wish(0, 1), Due.BEYOND);
        Due.is("wish(0, -1)", x.wish(0, -1), Due.BEYOND);
        wish(x, "l", 17);
        wish(x, "g*100", 700);
        wish(x, "a+y", 55);
        wish(x, "n*10+k", 44);
        wish(x, "999", 999);
        wish(x, "1000", 999);
        wish(x, "0-1", 0);
    }

    private static void wish(FivePlayers x, String text, int due) {
        Due.is("text(2) of " + text, Due.text(x, 2, text), 1);
        Due.is("wish(0, 0) by " + text, x.wish(0, 0), due);
    }
}
