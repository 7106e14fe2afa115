/** Promises 10 to 13, sentence by sentence: player, know, can, wish. */
final class PlayerEdges {
    private PlayerEdges() { }

    static void run() {
        playerNumber();
        playerBeyond();
        playerFull();
        knowNone();
        knowOtherwise();
        knowEach();
        knowBeyond();
        canGift();
        canText();
        canNames();
        canBeyond();
        wishGift();
        wishHeld();
        wishNames();
        wishBeyond();
    }

    // ---- promise 10

    private static void playerNumber() {
        Due.promise(10, "A PLAYER: its number");
        FivePlayers x = new FivePlayers();
        x.part(0, 0);
        int[][] due = {{0, 0}, {9, 99}, {0, 99}, {9, 0}, {5, 50}, {1, 1}};
        for (int player = 0; player < 6; player++) {
            Due.is("the next", x.player(due[player][0], due[player][1]), player);
            Due.is("count(3)", x.count(3), player + 1);
        }
        Plays.take(x, 2, "g*100+a");
        for (int player = 0; player < 6; player++) {
            Due.is("GIFT and AGE", x.wish(player, 0), due[player][0] * 100 + due[player][1]);
        }
    }

    private static void playerBeyond() {
        Due.promise(10, "BEYOND");
        FivePlayers x = new FivePlayers();
        Due.outside("player, gift", 0, 9, Due.BEYOND, gift -> x.player(gift, 0));
        Due.outside("player, age", 0, 99, Due.BEYOND, age -> x.player(0, age));
        Due.is("count(3)", x.count(3), 0);
        Due.is("player(9, 99)", x.player(9, 99), 0);
        Due.is("player(0, 0)", x.player(0, 0), 1);
    }

    private static void playerFull() {
        Due.promise(10, "BEYOND. FULL");
        FivePlayers x = Plays.of(0, 5);
        Due.is("the sixth", x.player(0, 0), 5);
        Due.is("the seventh", x.player(0, 0), Due.FULL);
        Due.is("full, no such gift", x.player(10, 0), Due.BEYOND);
        Due.is("full, no such age", x.player(0, 100), Due.BEYOND);
        Due.is("count(3)", x.count(3), 6);
    }

    // ---- promise 11

    private static void knowNone() {
        Due.term(11, "KNOW some PARTS (none at first)");
        FivePlayers x = Plays.of(10, 6);
        for (int player = 0; player < 6; player++) {
            for (int part = 0; part < 10; part++) {
                Due.is("know(" + player + ", " + part + ", false)", x.know(player, part, false), 0);
            }
        }
        FivePlayers y = Plays.of(1, 1);
        y.know(0, 0, true);
        y.part(0, 0);
        y.player(0, 0);
        Due.is("a later PART", y.know(0, 1, false), 0);
        Due.is("a later PLAYER", y.know(1, 0, false), 0);
    }

    private static void knowOtherwise() {
        Due.promise(11, "A PLAYER KNOWS a PART, or not: 1 if it was otherwise, else 0");
        FivePlayers x = Plays.of(1, 1);
        Due.is("not, as at first", x.know(0, 0, false), 0);
        Due.is("knows", x.know(0, 0, true), 1);
        Due.is("knows still", x.know(0, 0, true), 0);
        Due.is("not", x.know(0, 0, false), 1);
        Due.is("not still", x.know(0, 0, false), 0);
    }

    private static void knowEach() {
        Due.promise(11, "A PLAYER KNOWS a PART");
        FivePlayers x = Plays.of(10, 6);
        for (int player = 0; player < 6; player++) {
            for (int part = 0; part < 10; part++) {
                boolean does = (player + part) % 3 == 0;
                Due.is("know", x.know(player, part, does), does ? 1 : 0);
            }
        }
        for (int player = 0; player < 6; player++) {
            for (int part = 0; part < 10; part++) {
                boolean does = (player + part) % 3 == 0;
                Due.is("know(" + player + ", " + part + ")", x.know(player, part, true), does ? 0 : 1);
            }
        }
    }

    private static void knowBeyond() {
        Due.promise(11, "BEYOND");
        FivePlayers x = Plays.of(3, 2);
        Due.outside("know, player", 0, 1, Due.BEYOND, player -> x.know(player, 0, true));
        Due.outside("know, part", 0, 2, Due.BEYOND, part -> x.know(0, part, true));
        Due.is("not as it is, but no such part", x.know(0, 3, false), Due.BEYOND);
        Due.is("know(1, 2, true)", x.know(1, 2, true), 1);
        Due.is("know(0, 0, true)", x.know(0, 0, true), 1);
    }

    // ---- promise 12

    private static void canGift() {
        Due.term(12, "1 if GIFT isn't less than NEED, else 0");
        FivePlayers x = new FivePlayers();
        for (int need = 0; need < 10; need++) {
            x.part(need % 6, need * 1000 + 999);
        }
        int[] gifts = {0, 1, 4, 8, 9};
        for (int player = 0; player < gifts.length; player++) {
            x.player(gifts[player], 0);
            for (int need = 0; need < 10; need++) {
                Due.is("GIFT " + gifts[player] + ", NEED " + need, x.can(player, need), gifts[player] >= need ? 1 : 0);
            }
        }
    }

    private static void canText() {
        Due.term(12, "0 CAN (whether a PLAYER can play a PART, if not 0)");
        canBy("0", 0);
        canBy("1", 1);
        canBy("2", 1);
        canBy("9999", 1);
        canBy("0-1", 1);
        canBy("1-1", 0);
        canBy("0-9999", 1);
        // the least int, and what goes round to 0
        canBy("8192*4096*64", 1);
        canBy("8192*4096*128", 0);
    }

    private static void canBy(String text, int due) {
        FivePlayers x = Plays.of(1, 1);
        Due.is("text(0) of " + text, Due.text(x, 0, text), 1);
        Due.is("can(0, 0) by " + text, x.can(0, 0), due);
        Due.is("castings(1) by " + text, x.castings(1), due);
    }

    private static void canNames() {
        Due.term(12, "g GIFT, a its AGE, n NEED, y AGE of the PART, k KIND");
        FivePlayers x = new FivePlayers();
        x.part(4, 3210);
        x.player(7, 65);
        String[] texts = {"g=7", "a=65", "n=3", "y=21", "k=4"};
        for (String text : texts) {
            Due.is("text(0) of " + text, Due.text(x, 0, text), 1);
            Due.is("can(0, 0) by " + text, x.can(0, 0), 1);
            Due.is("text(0) of !" + text, Due.text(x, 0, "!(" + text + ")"), 1);
            Due.is("can(0, 0) by !" + text, x.can(0, 0), 0);
        }
    }

    private static void canBeyond() {
        Due.promise(12, "BEYOND");
        FivePlayers x = Plays.of(3, 2);
        Due.outside("can, player", 0, 1, Due.BEYOND, player -> x.can(player, 0));
        Due.outside("can, part", 0, 2, Due.BEYOND, part -> x.can(0, part));
        Due.is("can(1, 2)", x.can(1, 2), 1);
    }

    // ---- promise 13

    private static void wishGift() {
        Due.term(13, "Without: GIFT");
        FivePlayers x = new FivePlayers();
        x.part(0, 9999);
        int[] gifts = {0, 9, 1, 8, 5};
        for (int player = 0; player < gifts.length; player++) {
            x.player(gifts[player], 99);
            Due.is("GIFT " + gifts[player], x.wish(player, 0), gifts[player]);
        }
    }

    private static void wishHeld() {
        Due.term(13, "2 WISH (of a PLAYER for a PART, held within 0 .. 999)");
        wishBy("0", 0);
        wishBy("0-1", 0);
        wishBy("0-9999", 0);
        wishBy("1", 1);
        wishBy("998", 998);
        wishBy("999", 999);
        wishBy("1000", 999);
        wishBy("9999", 999);
        // the least and the greatest int
        wishBy("8192*4096*64", 0);
        wishBy("8192*4096*64-1", 999);
    }

    private static void wishBy(String text, int due) {
        FivePlayers x = Plays.of(1, 1);
        Due.is("text(2) of " + text, Due.text(x, 2, text), 1);
        Due.is("wish(0, 0) by " + text, x.wish(0, 0), due);
        Due.is("best(0, 1, -1) by " + text, x.best(0, 1, -1), due);
    }

    private static void wishNames() {
        Due.term(13, "as of CAN, and l WEIGHT");
        FivePlayers x = new FivePlayers();
        x.lines(200);
        x.part(5, 3210);
        x.part(0, 0);
        x.entry(1, 0, 199, 0);
        x.player(7, 65);
        String[] texts = {"g", "a", "n", "y", "k", "l"};
        int[][] due = {{7, 7}, {65, 65}, {3, 0}, {21, 0}, {5, 0}, {0, 200}};
        for (int i = 0; i < texts.length; i++) {
            Due.is("text(2) of " + texts[i], Due.text(x, 2, texts[i]), 1);
            Due.is("wish(0, 0) by " + texts[i], x.wish(0, 0), due[i][0]);
            Due.is("wish(0, 1) by " + texts[i], x.wish(0, 1), due[i][1]);
        }
    }

    private static void wishBeyond() {
        Due.promise(13, "BEYOND");
        FivePlayers x = Plays.of(3, 2);
        Due.outside("wish, player", 0, 1, Due.BEYOND, player -> x.wish(player, 0));
        Due.outside("wish, part", 0, 2, Due.BEYOND, part -> x.wish(0, part));
        Due.is("wish(1, 2)", x.wish(1, 2), 5);
    }
}
