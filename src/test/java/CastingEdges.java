/** Promises 27 to 31 and term 6, sentence by sentence: best, take, castings, leave, never. */
final class CastingEdges {
    private CastingEdges() { }

    static void run() {
        bestBeyond();
        bestSets();
        bestNone();
        bestOrder();
        bestNoParts();
        bestWho();
        bestWishes();
        bestWishesEnds();
        bestToLearn();
        bestEvenest();
        bestMoved();
        bestOfSeveral();
        bestOfSeveralNext();
        bestWhoCan();
        takeCast();
        takeNoParts();
        takeBeyond();
        takeNone();
        castingsNoParts();
        castingsMost();
        castingsBarred();
        castingsBeyond();
        leaveNothing();
        leaveAll();
        leaveWeight();
        leaveFewest();
        leaveBits();
        leaveUseless();
        leaveBeyond();
        neverNone();
        neverEach();
        neverOutside();
        neverNoParts();
        neverBeyond();
        neverNoCasting();
    }

    private static void best(FivePlayers x, int way, int players, int sum, String who) {
        String call = "best(" + way + ", " + players + ", ";
        Due.is(call + "-1)", x.best(way, players, -1), sum);
        for (int part = 0; part < who.length(); part++) {
            Due.is(call + part + ")", x.best(way, players, part), who.charAt(part) - '0');
        }
    }

    /** PARTS of so many LINES, none BARRED, for PLAYERS of these GIFTS. */
    private static FivePlayers weights(int[] weights, int... gifts) {
        FivePlayers x = new FivePlayers();
        x.lines(200);
        int line = 0;
        for (int part = 0; part < weights.length; part++) {
            x.part(0, 0);
            if (weights[part] > 0) {
                x.entry(part, line, line + weights[part] - 1, 0);
                line += weights[part] + 2;
            }
        }
        for (int gift : gifts) {
            x.player(gift, 0);
        }
        return x;
    }

    // ---- promise 27

    private static void bestBeyond() {
        Due.promise(27, "BEYOND: way, set, what");
        FivePlayers x = Plays.apart(3, 2);
        Due.outside("best, way", 0, 3, Due.BEYOND, way -> x.best(way, 3, -1));
        Due.outside("best, set", 0, 3, Due.BEYOND, set -> x.best(0, set, -1));
        Due.outside("best, what", -1, 2, Due.BEYOND, what -> x.best(0, 3, what));
        Due.is("best(3, 3, 2)", x.best(3, 3, 2), 1);
    }

    private static void bestSets() {
        Due.promise(27, "a set of PLAYERS (as bits; 0 is one, too)");
        FivePlayers x = new FivePlayers();
        x.part(0, 0);
        for (int players = 0; players <= 6; players++) {
            int all = (1 << players) - 1;
            Due.is("set 0 of " + players, x.best(0, 0, -1), Due.NONE);
            Due.is("all of " + players, x.best(0, all, 0), players == 0 ? Due.NONE : players - 1);
            Due.is("one more than all of " + players, x.best(0, all + 1, 0), Due.BEYOND);
            if (players < 6) {
                x.player(players, 0);
                Due.is("the one who came alone", x.best(0, 1 << players, 0), players);
            }
        }
    }

    private static void bestNone() {
        Due.promise(27, "NONE: there is no casting");
        FivePlayers x = Plays.together(3, 3);
        for (int way = 0; way < 4; way++) {
            Due.is("three together by two", x.best(way, 3, -1), Due.NONE);
            Due.is("three together by two, who", x.best(way, 6, 2), Due.NONE);
            Due.is("by nobody", x.best(way, 0, 0), Due.NONE);
            Due.is("by three", x.best(way, 7, -1) >= 0 ? 1 : 0, 1);
        }
        Due.text(x, 0, "0");
        Due.is("nobody can", x.best(0, 7, -1), Due.NONE);
    }

    private static void bestOrder() {
        Due.promise(27, "BEYOND: way, set, what. NONE");
        FivePlayers x = Plays.together(3, 2);
        Due.is("no casting, no such way", x.best(4, 3, -1), Due.BEYOND);
        Due.is("no casting, no such set", x.best(0, 4, -1), Due.BEYOND);
        Due.is("no casting, no such PART", x.best(0, 3, 3), Due.BEYOND);
        Due.is("no casting, what -2", x.best(0, 3, -2), Due.BEYOND);
        Due.is("no casting", x.best(0, 3, 2), Due.NONE);
    }

    private static void bestNoParts() {
        Due.promise(27, "what -1 its SUM");
        FivePlayers x = Plays.of(0, 6);
        for (int way = 0; way < 4; way++) {
            Due.is("no PARTS, set 0", x.best(way, 0, -1), 0);
            Due.is("no PARTS, set 63", x.best(way, 63, -1), 0);
            Due.is("no PARTS, who plays 0", x.best(way, 63, 0), Due.BEYOND);
        }
        // none any more: nothing is left of a SUM that was found ahead
        FivePlayers y = new FivePlayers();
        y.image();
        y.part(0, 0);
        y.player(9, 0);
        Due.is("one PART", y.best(0, 1, -1), 9);
        y.restore();
        Due.is("no PARTS again", y.best(0, 0, -1), 0);
    }

    private static void bestWho() {
        Due.promise(27, "else who plays PART what");
        best(Plays.together(6, 6), 0, 63, 30, "012345");
        // PLAYER n can play PART 5 - n alone
        FivePlayers y = new FivePlayers();
        for (int part = 0; part < 6; part++) {
            y.part(0, part * 10);
            y.entry(part, 0, 9, 0);
        }
        for (int player = 0; player < 6; player++) {
            y.player(0, player);
        }
        Due.text(y, 0, "a+y=5");
        best(y, 0, 63, 0, "543210");
        best(y, 2, 63, 10, "543210");
    }

    private static void bestWishes() {
        Due.term(27, "0 WISHES of all (the most is best)");
        FivePlayers x = weights(new int[] {1, 2, 3}, 1, 9, 8);
        best(x, 0, 7, 27, "111");
        best(x, 0, 5, 24, "222");
        best(x, 0, 1, 3, "000");
        Due.text(x, 2, "l*(g=1)*10+g");
        best(x, 0, 7, 63, "000");
        Due.text(x, 2, "(g=1)*(l=3)*10+(g=8)*(l=2)*10+(g=9)*(l=1)*10");
        best(x, 0, 7, 30, "120");
        best(x, 0, 6, 20, "122");
    }

    private static void bestWishesEnds() {
        Due.term(27, "0 WISHES of all (the most is best)");
        FivePlayers x = Plays.apart(10, 6);
        Due.text(x, 2, "9999");
        best(x, 0, 63, 9990, "5555555555");
        Due.text(x, 2, "0-9999");
        best(x, 0, 63, 0, "5555555555");
        best(x, 0, 1, 0, "0000000000");
    }

    private static void bestToLearn() {
        Due.term(27, "1 WEIGHTS of those PARTS that their PLAYERS don't KNOW (the least is best)");
        FivePlayers x = weights(new int[] {10, 20, 0}, 0, 0);
        best(x, 1, 3, 30, "111");
        x.know(0, 1, true);
        best(x, 1, 3, 10, "101");
        x.know(1, 0, true);
        best(x, 1, 3, 0, "101");
        best(x, 1, 1, 10, "000");
        best(x, 1, 2, 20, "111");
        // a PART that is never on weighs nothing
        x.know(0, 2, true);
        best(x, 1, 3, 0, "101");
        FivePlayers y = Plays.of(10, 2);
        y.lines(200);
        for (int part = 0; part < 10; part++) {
            y.entry(part, 0, 199, 0);
        }
        Due.is("nobody plays two together", y.best(1, 3, -1), Due.NONE);
    }

    private static void bestEvenest() {
        Due.term(27, "2 the greatest sum of WEIGHTS of PARTS of one PLAYER (the least)");
        FivePlayers x = weights(new int[] {4, 3, 3, 2}, 0, 0, 0);
        best(x, 2, 1, 12, "0000");
        best(x, 2, 3, 6, "1001");
        // 5 at most: only 3 and 2 go together
        best(x, 2, 7, 5, "0122");
        // 6 at most: 4 alone for PLAYER 1 would leave 5 and 2 together
        best(weights(new int[] {6, 4, 5, 2}, 0, 0, 0), 2, 7, 6, "0212");
        FivePlayers y = weights(new int[] {0, 0}, 0, 0);
        best(y, 2, 3, 0, "11");
        FivePlayers z = weights(new int[] {7}, 0, 0);
        best(z, 2, 3, 7, "1");
    }

    private static void bestMoved() {
        Due.term(27, "3 how many PARTS are not played by whom THE CAST tells (one for which it tells nobody, too; the least)");
        FivePlayers x = Plays.apart(4, 3);
        best(x, 3, 7, 4, "2222");
        x.cast(0, 0);
        best(x, 3, 7, 3, "0222");
        x.cast(1, 1);
        x.cast(2, 2);
        x.cast(3, 0);
        best(x, 3, 7, 0, "0120");
        best(x, 3, 6, 2, "2122");
        best(x, 3, 4, 3, "2222");
        best(x, 3, 1, 2, "0000");
        // one that THE CAST tells is barred now
        x.shift(3, -30);
        best(x, 3, 7, 1, "0122");
    }

    private static void bestOfSeveral() {
        Due.term(27, "THE BEST by a way: of several that where the PARTS of the least PLAYER are less as bits");
        FivePlayers x = Plays.apart(3, 3);
        best(x, 0, 7, 15, "222");
        best(x, 0, 3, 15, "111");
        best(x, 0, 5, 15, "222");
        best(x, 0, 1, 15, "000");
        // PLAYER 0 plays no more than must be
        FivePlayers y = Plays.apart(3, 2);
        y.know(0, 0, true);
        y.know(0, 1, true);
        y.know(0, 2, true);
        best(y, 1, 3, 0, "000");
        y.know(1, 0, true);
        y.know(1, 2, true);
        best(y, 1, 3, 0, "101");
        // PART 0 (1 as bits) is less than PART 1 (2)
        FivePlayers z = Plays.together(2, 2);
        for (int way = 0; way < 4; way++) {
            best(z, way, 3, new int[] {10, 20, 10, 2}[way], "01");
        }
    }

    private static void bestOfSeveralNext() {
        Due.term(27, "then those of the next one, and so on");
        FivePlayers x = Plays.together(3, 4);
        best(x, 0, 15, 15, "123");
        best(x, 0, 7, 15, "012");
        best(x, 0, 13, 15, "023");
        best(x, 2, 15, 10, "123");
        // PARTS 0 and 1 meet: PLAYERS 0 .. 3 have nothing, 4 the lesser one and what is with it
        FivePlayers y = Plays.of(4, 6);
        y.entry(0, 0, 9, 0);
        y.entry(1, 0, 9, 0);
        best(y, 0, 63, 20, "4555");
        best(y, 1, 63, 20, "4555");
        best(y, 3, 63, 4, "4555");
    }

    private static void bestWhoCan() {
        Due.term(27, "each PART is played by one of them who can, no two BARRED PARTS by one");
        FivePlayers x = new FivePlayers();
        x.part(0, 5000);
        x.part(0, 0);
        x.entry(0, 0, 9, 0);
        x.entry(1, 11, 19, 0);
        x.player(5, 0);
        x.player(4, 0);
        best(x, 0, 1, Due.NONE, "");
        best(x, 0, 2, Due.NONE, "");
        best(x, 0, 3, 9, "01");
        x.shift(1, 1);
        best(x, 0, 1, 10, "00");
        best(x, 0, 2, Due.NONE, "");
        best(x, 0, 3, 10, "00");
        best(x, 2, 3, 10, "01");
        // wishes for other PARTS don't make up for one that a PLAYER can't play
        FivePlayers y = new FivePlayers();
        y.part(0, 0);
        y.part(0, 9000);
        y.part(0, 0);
        y.player(8, 0);
        y.player(8, 0);
        Due.text(y, 2, "999");
        best(y, 0, 1, Due.NONE, "");
        best(y, 0, 3, Due.NONE, "");
        y.player(9, 0);
        best(y, 0, 7, 2997, "222");
        best(y, 0, 3, Due.NONE, "");
    }

    // ---- promise 28

    private static void isCast(FivePlayers x, String due) {
        for (int part = 0; part < due.length(); part++) {
            int was = due.charAt(part) == '-' ? -1 : due.charAt(part) - '0';
            Due.is("who was told for PART " + part, x.cast(part, was), was);
        }
    }

    private static void takeCast() {
        Due.promise(28, "THE CAST becomes THE BEST by a way and a set: its SUM");
        FivePlayers x = weights(new int[] {4, 3, 2}, 1, 2, 3);
        Due.is("take(0, 7)", x.take(0, 7), 9);
        isCast(x, "222");
        Due.is("count(8)", x.count(8), 3);
        Due.is("take(2, 3)", x.take(2, 3), 5);
        isCast(x, "011");
        Due.is("take(3, 7), as it is", x.take(3, 7), 0);
        isCast(x, "011");
        Due.is("take(3, 6)", x.take(3, 6), 1);
        isCast(x, "211");
        x.know(0, 0, true);
        Due.is("take(1, 7)", x.take(1, 7), 5);
        isCast(x, "022");
        Due.is("take(1, 1)", x.take(1, 1), 5);
        isCast(x, "000");
        Due.is("bars(0)", x.bars(0), 0);
        FivePlayers y = Plays.together(6, 6);
        Due.is("take(0, 63)", y.take(0, 63), 30);
        isCast(y, "012345");
    }

    private static void takeNoParts() {
        Due.promise(28, "its SUM");
        FivePlayers x = Plays.of(0, 1);
        for (int way = 0; way < 4; way++) {
            Due.is("take(" + way + ", 0)", x.take(way, 0), 0);
            Due.is("take(" + way + ", 1)", x.take(way, 1), 0);
        }
        Due.is("count(8)", x.count(8), 0);
        x.part(0, 0);
        Due.is("cast(0, -1), a PART that came later", x.cast(0, -1), -1);
    }

    private static void takeBeyond() {
        Due.promise(28, "BEYOND");
        FivePlayers x = Plays.apart(2, 2);
        x.cast(0, 1);
        Due.outside("take, way", 0, 3, Due.BEYOND, way -> x.take(way, 3));
        Due.outside("take, set", 0, 3, Due.BEYOND, set -> x.take(0, set));
        Due.is("no such way, no casting", x.take(4, 0), Due.BEYOND);
        isCast(x, "1-");
    }

    private static void takeNone() {
        Due.promise(28, "BEYOND. NONE");
        FivePlayers x = Plays.together(3, 2);
        x.cast(0, 1);
        x.cast(2, 0);
        for (int way = 0; way < 4; way++) {
            Due.is("take(" + way + ", 3)", x.take(way, 3), Due.NONE);
            Due.is("take(" + way + ", 0)", x.take(way, 0), Due.NONE);
        }
        isCast(x, "1-0");
    }

    // ---- promise 29

    private static void castingsNoParts() {
        Due.promise(29, "(without PARTS one)");
        FivePlayers x = new FivePlayers();
        Due.is("no PLAYERS either", x.castings(0), 1L);
        for (int i = 0; i < 6; i++) {
            x.player(0, 0);
        }
        Due.is("castings(0)", x.castings(0), 1L);
        Due.is("castings(1)", x.castings(1), 1L);
        Due.is("castings(63)", x.castings(63), 1L);
    }

    private static void castingsMost() {
        Due.promise(29, "How many castings there are by a set of PLAYERS");
        FivePlayers x = Plays.of(10, 6);
        long due = 1;
        for (int players = 1; players <= 6; players++) {
            due = 1;
            for (int part = 0; part < 10; part++) {
                due *= players;
            }
            Due.is("ten free PARTS by " + players, x.castings((1 << players) - 1), due);
        }
        Due.is("six to the tenth", due, 60466176L);
        Due.is("by nobody", x.castings(0), 0L);
        Due.is("by the last one", x.castings(32), 1L);
    }

    private static void castingsBarred() {
        Due.term(29, "no two BARRED PARTS by one");
        int[] due = {1, 6, 30, 120, 360, 720, 720, 0, 0, 0, 0};
        for (int parts = 0; parts <= 10; parts++) {
            Due.is(parts + " together by six", Plays.together(parts, 6).castings(63), due[parts]);
        }
        FivePlayers x = Plays.of(2, 2);
        x.entry(0, 0, 9, 0);
        x.entry(1, 11, 19, 0);
        Due.is("TOO NEAR", x.castings(3), 2);
        x.shift(1, 1);
        Due.is("not TOO NEAR", x.castings(3), 4);
    }

    private static void castingsBeyond() {
        Due.promise(29, "BEYOND");
        FivePlayers x = new FivePlayers();
        Due.outside("castings, no PLAYERS", 0, 0, Due.BEYOND, x::castings);
        for (int i = 0; i < 6; i++) {
            x.player(0, 0);
        }
        Due.outside("castings, six PLAYERS", 0, 63, Due.BEYOND, x::castings);
        Due.is("as a long", x.castings(64), -1000001L);
        Due.is("told(1)", x.told(1), 9);
    }

    // ---- promise 30

    private static void leave(FivePlayers x, int players, int weight, int which) {
        Due.is("leave(" + players + ", 0)", x.leave(players, 0), weight);
        Due.is("leave(" + players + ", 1)", x.leave(players, 1), which);
    }

    private static void leaveNothing() {
        Due.promise(30, "PARTS that are LEFT OUT for a set of PLAYERS");
        leave(new FivePlayers(), 0, 0, 0);
        leave(Plays.of(0, 6), 63, 0, 0);
        leave(Plays.apart(10, 1), 1, 0, 0);
        leave(Plays.together(6, 6), 63, 0, 0);
    }

    private static void leaveAll() {
        Due.promise(30, "what 0 WEIGHT together, 1 which, as bits");
        leave(Plays.together(10, 6), 0, 100, 1023);
        leave(Plays.of(10, 0), 0, 0, 1023);
        FivePlayers x = Plays.apart(10, 6);
        Due.text(x, 0, "0");
        leave(x, 63, 10, 1023);
        FivePlayers y = Plays.of(10, 0);
        y.lines(200);
        for (int part = 0; part < 10; part++) {
            y.entry(part, 0, 199, 0);
        }
        leave(y, 0, 2000, 1023);
        y.player(0, 0);
        leave(y, 1, 1800, 511);
    }

    private static void leaveWeight() {
        Due.term(30, "the least WEIGHT together");
        FivePlayers x = Plays.of(3, 1);
        x.entry(0, 0, 4, 0);
        x.entry(1, 20, 24, 0);
        x.entry(2, 4, 20, 0);
        // 10 LINES in two PARTS are less than 17 in one
        leave(x, 1, 10, 3);
        x.shift(1, 10);
        leave(x, 1, 5, 1);
    }

    private static void leaveFewest() {
        Due.term(30, "of several the fewest PARTS");
        FivePlayers x = Plays.of(3, 1);
        x.entry(0, 0, 4, 0);
        x.entry(1, 9, 13, 0);
        x.entry(2, 4, 9, 0);
        x.entry(2, 20, 23, 0);
        // 0 and 1 are 5 and 5, 2 is 10
        leave(x, 1, 10, 4);
    }

    private static void leaveBits() {
        Due.term(30, "then the least as bits");
        leave(Plays.together(2, 1), 1, 10, 1);
        leave(Plays.together(3, 1), 1, 20, 3);
        leave(Plays.together(10, 6), 63, 40, 15);
        FivePlayers x = Plays.apart(4, 1);
        x.shift(3, -10);
        leave(x, 1, 1, 4);
    }

    private static void leaveUseless() {
        Due.term(30, "PARTS without which there is a casting by a set of PLAYERS");
        // never on, but nobody can play them
        FivePlayers x = new FivePlayers();
        x.part(0, 9000);
        x.part(0, 0);
        x.part(0, 9000);
        x.player(0, 0);
        x.player(9, 0);
        leave(x, 1, 0, 5);
        leave(x, 2, 0, 0);
        leave(x, 3, 0, 0);
        leave(x, 0, 0, 7);
    }

    private static void leaveBeyond() {
        Due.promise(30, "BEYOND");
        FivePlayers x = Plays.together(3, 2);
        Due.outside("leave, set", 0, 3, Due.BEYOND, set -> x.leave(set, 0));
        Due.outside("leave, what", 0, 1, Due.BEYOND, what -> x.leave(3, what));
        leave(x, 3, 10, 1);
    }

    // ---- promise 31

    private static void never(FivePlayers x, int players, int player, int none, int each) {
        Due.is("never(" + players + ", " + player + ", 0)", x.never(players, player, 0), none);
        Due.is("never(" + players + ", " + player + ", 1)", x.never(players, player, 1), each);
    }

    private static void neverNone() {
        Due.promise(31, "PARTS (as bits) that a PLAYER (of the set or not) plays in no casting by a set (0)");
        FivePlayers x = new FivePlayers();
        x.part(0, 3000);
        x.part(0, 0);
        x.player(3, 0);
        x.player(2, 0);
        never(x, 3, 0, 0, 1);
        never(x, 3, 1, 1, 0);
        never(x, 1, 0, 0, 3);
        x.player(9, 0);
        never(x, 7, 0, 0, 0);
        // who can, but never does: 0 and 1 meet
        x.entry(0, 0, 9, 0);
        x.entry(1, 0, 9, 0);
        never(x, 3, 0, 2, 1);
        never(x, 3, 1, 1, 2);
        never(x, 7, 1, 1, 0);
        // asked first of one who can't
        FivePlayers y = new FivePlayers();
        y.part(0, 0);
        y.part(0, 5000);
        y.player(9, 0);
        y.player(4, 0);
        never(y, 3, 1, 2, 0);
        FivePlayers z = new FivePlayers();
        z.part(0, 5000);
        z.player(4, 0);
        never(z, 1, 0, Due.NONE, Due.NONE);
    }

    private static void neverEach() {
        Due.promise(31, "in each (1)");
        FivePlayers x = Plays.apart(10, 6);
        never(x, 63, 0, 0, 0);
        never(x, 63, 5, 0, 0);
        never(x, 32, 5, 0, 1023);
        never(x, 1, 0, 0, 1023);
        never(x, 33, 5, 0, 0);
    }

    private static void neverOutside() {
        Due.promise(31, "a PLAYER (of the set or not)");
        FivePlayers x = Plays.apart(10, 6);
        never(x, 31, 5, 1023, 0);
        Due.is("never(32, 5, 1), of the set", x.never(32, 5, 1), 1023);
        Due.is("never(31, 5, 1), not of the set", x.never(31, 5, 1), 0);
        Due.is("never(32, 5, 0), of the set", x.never(32, 5, 0), 0);
        Due.is("never(31, 5, 0), not of the set", x.never(31, 5, 0), 1023);
        never(x, 62, 0, 1023, 0);
        never(x, 1, 1, 1023, 0);
    }

    private static void neverNoParts() {
        Due.promise(31, "PARTS (as bits)");
        FivePlayers x = Plays.of(0, 2);
        for (int set = 0; set < 4; set++) {
            never(x, set, 0, 0, 0);
            never(x, set, 1, 0, 0);
        }
    }

    private static void neverBeyond() {
        Due.promise(31, "BEYOND");
        FivePlayers x = Plays.apart(3, 2);
        Due.outside("never, set", 0, 3, Due.BEYOND, set -> x.never(set, 0, 0));
        Due.outside("never, player", 0, 1, Due.BEYOND, player -> x.never(3, player, 0));
        Due.outside("never, what", 0, 1, Due.BEYOND, what -> x.never(3, 0, what));
        never(x, 2, 1, 0, 7);
    }

    private static void neverNoCasting() {
        Due.promise(31, "BEYOND. NONE: there is no casting");
        FivePlayers x = Plays.together(3, 3);
        never(x, 3, 0, Due.NONE, Due.NONE);
        never(x, 3, 2, Due.NONE, Due.NONE);
        never(x, 0, 1, Due.NONE, Due.NONE);
        never(x, 7, 1, 0, 0);
        Due.is("no casting, no such what", x.never(3, 0, 2), Due.BEYOND);
        Due.is("no casting, no such PLAYER", x.never(3, 3, 0), Due.BEYOND);
        Due.is("no such set", x.never(8, 0, 0), Due.BEYOND);
    }
}
