/** Promises 39 to 42, sentence by sentence: tell, check, count, told. */
final class ToldEdges {
    private ToldEdges() { }

    static void run() {
        tellMany();
        tellFull();
        checkRight();
        checkPlace();
        checkNoPart();
        checkFewer();
        checkAnyNumber();
        checkAllPlayers();
        checkWays();
        checkEmpties();
        checkBeyond();
        checkNone();
        checkOrder();
        countWhat();
        countMost();
        countBeyond();
        toldEach();
        toldBeyond();
        toldNoErrors();
        errorsInLongs();
    }

    private static void tell(FivePlayers x, int... numbers) {
        for (int number : numbers) {
            x.tell(number);
        }
    }

    // ---- promise 39

    private static void tellMany() {
        Due.promise(39, "One more number waits: how many");
        FivePlayers x = new FivePlayers();
        int[] any = {0, -1, 1, Due.MIN, Due.MAX};
        for (int i = 0; i < 20; i++) {
            Due.is("tell", x.tell(any[i % any.length]), i + 1);
            Due.is("count(5)", x.count(5), i + 1);
        }
    }

    private static void tellFull() {
        Due.promise(39, "FULL: 20 wait");
        FivePlayers x = new FivePlayers();
        tell(x, 0, 0, 0, 0, 0, 0, 0, 0, 0, 0, 0, 0, 0, 0, 0, 0, 0, 0, 0);
        Due.is("the 20th", x.tell(0), 20);
        Due.is("the 21st", x.tell(0), Due.FULL);
        Due.is("the 21st again", x.tell(Due.MAX), Due.FULL);
        Due.is("count(5)", x.count(5), 20);
        Due.is("told(4)", x.told(4), 2);
        x.check(0);
        Due.is("the first one again", x.tell(0), 1);
        // those that wait stay as they are
        FivePlayers y = Plays.apart(10, 1);
        tell(y, 0, 0, 0, 0, 0, 0, 0, 0, 0, 0, 0, 0, 0, 0, 0, 0, 0, 0, 0, 0, 7, 7);
        Due.is("check(0), all ten are right", y.check(0), 11);
    }

    // ---- promise 40

    private static void checkRight() {
        Due.promise(40, "The numbers that wait (none do then) are the PLAYERS of PARTS 0, 1, .. of THE BEST");
        FivePlayers x = Plays.together(6, 6);
        tell(x, 0, 1, 2, 3, 4, 5);
        Due.is("check(0)", x.check(0), 0);
        Due.is("count(5)", x.count(5), 0);
        FivePlayers y = Plays.apart(10, 6);
        tell(y, 5, 5, 5, 5, 5, 5, 5, 5, 5, 5);
        Due.is("check(1), ten of ten", y.check(1), 0);
    }

    private static void checkPlace() {
        Due.promise(40, "0, or 1 and the place of the first that isn't so");
        for (int place = 0; place < 6; place++) {
            FivePlayers x = Plays.together(6, 6);
            for (int i = 0; i < 6; i++) {
                x.tell(i < place ? i : i + 1);
            }
            Due.is("all from " + place + " on are wrong", x.check(0), 1 + place);
            for (int i = 0; i < 6; i++) {
                x.tell(i == place ? -1 : i);
            }
            Due.is(place + " alone is wrong", x.check(0), 1 + place);
        }
    }

    private static void checkNoPart() {
        Due.promise(40, "or stands for no PART");
        FivePlayers x = new FivePlayers();
        Due.is("no PARTS, none waits", x.check(0), 0);
        tell(x, 0);
        Due.is("no PARTS, one waits", x.check(0), 1);
        tell(x, -1, -1);
        Due.is("no PARTS, nobody waits", x.check(0), 1);
        FivePlayers y = Plays.apart(10, 1);
        tell(y, 0, 0, 0, 0, 0, 0, 0, 0, 0, 0);
        Due.is("ten for ten", y.check(0), 0);
        tell(y, 0, 0, 0, 0, 0, 0, 0, 0, 0, 0, 0);
        Due.is("eleven for ten", y.check(0), 11);
        tell(y, 0, 0, 0, 0, 0, 0, 0, 0, 0, 0, 0, 0, 0, 0, 0, 0, 0, 0, 0, 0);
        Due.is("twenty for ten", y.check(0), 11);
        tell(y, 0, 0, 0, 0, 0, 0, 0, 0, 0, 7, 0);
        Due.is("the tenth is wrong, too", y.check(0), 10);
    }

    private static void checkFewer() {
        Due.promise(40, "the first that isn't so");
        FivePlayers x = Plays.together(3, 3);
        Due.is("none waits", x.check(0), 0);
        tell(x, 0);
        Due.is("one waits, it is so", x.check(0), 0);
        tell(x, 0, 1);
        Due.is("two wait, both are so", x.check(0), 0);
        tell(x, 0, 2);
        Due.is("two wait, the second isn't so", x.check(0), 2);
    }

    private static void checkAnyNumber() {
        Due.promise(40, "that isn't so");
        int[] any = {-1, 1, 256, 65536, Due.MIN, Due.MAX};
        for (int v : any) {
            FivePlayers x = Plays.of(1, 1);
            tell(x, v);
            Due.is("check(0) of " + v, x.check(0), 1);
        }
    }

    private static void checkAllPlayers() {
        Due.promise(40, "by a way and all PLAYERS");
        FivePlayers x = new FivePlayers();
        x.part(0, 0);
        for (int player = 0; player < 6; player++) {
            x.player(player, 0);
            tell(x, player);
            Due.is("the latest PLAYER wishes most", x.check(0), 0);
        }
    }

    private static void checkWays() {
        Due.promise(40, "of THE BEST by a way");
        FivePlayers x = Plays.of(2, 0);
        x.player(9, 0);
        x.player(4, 0);
        x.entry(0, 0, 4, 0);
        x.entry(1, 50, 59, 0);
        x.know(1, 0, true);
        x.know(0, 1, true);
        x.cast(0, 1);
        x.cast(1, 1);
        // by wishes, to learn, evenest, fewest moved
        int[][] due = {{0, 0}, {1, 0}, {0, 1}, {1, 1}};
        for (int way = 0; way < 4; way++) {
            for (int other = 0; other < 4; other++) {
                tell(x, due[other][0], due[other][1]);
                int wrong = due[other][0] != due[way][0] ? 1 : due[other][1] != due[way][1] ? 2 : 0;
                Due.is("check(" + way + ") of what is best by " + other, x.check(way), wrong);
            }
        }
    }

    private static void checkEmpties() {
        Due.promise(40, "(none do then)");
        FivePlayers x = Plays.of(2, 1);
        tell(x, 0, 0);
        Due.is("right", x.check(0), 0);
        Due.is("count(5)", x.count(5), 0);
        tell(x, 0, 9);
        Due.is("wrong", x.check(0), 2);
        Due.is("count(5)", x.count(5), 0);
        Due.is("again, none waits", x.check(0), 0);
        // THE CAST doesn't change
        Due.is("count(8)", x.count(8), 0);
    }

    private static void checkBeyond() {
        Due.promise(40, "BEYOND, NONE (none wait then, behind either)");
        int[] wrong = {-1, 4, Due.MIN, Due.MAX};
        for (int way : wrong) {
            FivePlayers x = Plays.of(1, 1);
            tell(x, 0, 0);
            Due.is("check(" + way + ")", x.check(way), Due.BEYOND);
            Due.is("count(5)", x.count(5), 0);
            Due.is("told(1)", x.told(1), 1);
            tell(x, 0);
            Due.is("check(3)", x.check(3), 0);
        }
    }

    private static void checkNone() {
        Due.promise(40, "NONE (none wait then, behind either)");
        for (int way = 0; way < 4; way++) {
            FivePlayers x = Plays.together(2, 1);
            tell(x, 0, 0);
            Due.is("check(" + way + "), no casting", x.check(way), Due.NONE);
            Due.is("count(5)", x.count(5), 0);
            Due.is("check(" + way + "), none waits", x.check(way), Due.NONE);
            FivePlayers y = Plays.of(1, 0);
            tell(y, 0);
            Due.is("check(" + way + "), no PLAYERS", y.check(way), Due.NONE);
            Due.is("count(5)", y.count(5), 0);
            Due.is("told(2)", y.told(2), 1);
        }
    }

    private static void checkOrder() {
        Due.promise(40, "BEYOND, NONE");
        FivePlayers x = Plays.together(2, 1);
        Due.is("no casting, no such way", x.check(4), Due.BEYOND);
        Due.is("no casting, no such way", x.check(-1), Due.BEYOND);
        Due.is("no casting", x.check(3), Due.NONE);
    }

    // ---- promise 41

    private static void counts(FivePlayers x, int... due) {
        for (int what = 0; what < 9; what++) {
            Due.is("count(" + what + ")", x.count(what), due[what]);
        }
    }

    private static void countWhat() {
        Due.promise(41, "0 LINES, 1 PARTS, 2 ENTRIES, 3 PLAYERS, 4 bytes of THE TAPE, 5 numbers that wait");
        FivePlayers x = new FivePlayers();
        counts(x, 100, 0, 0, 0, 0, 0, 0, 0, 0);
        x.lines(10);
        x.part(0, 0);
        counts(x, 10, 1, 0, 0, 0, 0, 0, 0, 0);
        x.entry(0, 0, 0, 0);
        x.entry(0, 1, 1, 0);
        counts(x, 10, 1, 2, 0, 0, 0, 0, 0, 0);
        x.player(0, 0);
        x.feed('1', 1);
        x.tell(9);
        counts(x, 10, 1, 2, 1, 1, 1, 0, 0, 0);
        x.voice(0, 3, 0);
        x.text(1);
        x.cast(0, 0);
        counts(x, 10, 1, 2, 1, 0, 1, 4, 1, 1);
    }

    private static void countMost() {
        Due.promise(41, "6 BODIES in THE TRACE, 7 USES that have a TEXT, 8 PARTS for which THE CAST tells a PLAYER");
        FivePlayers x = Plays.full();
        counts(x, 200, 10, 40, 6, 50, 20, 0, 0, 0);
        x.voice(5, 3, 0);
        x.text(0);
        for (int use = 0; use < 3; use++) {
            Due.is("text(" + use + ")", Due.text(x, use, "1"), 1);
            Due.is("count(7)", x.count(7), 1 + use);
        }
        x.take(0, 63);
        for (int part = 0; part < 10; part++) {
            x.cast(part, 5);
        }
        counts(x, 200, 10, 40, 6, 0, 20, 10, 3, 10);
        for (int part = 0; part < 10; part++) {
            x.cast(part, -1);
            Due.is("count(8)", x.count(8), 9 - part);
        }
    }

    private static void countBeyond() {
        Due.promise(41, "BEYOND");
        FivePlayers x = new FivePlayers();
        Due.outside("count", 0, 8, Due.BEYOND, x::count);
        Due.is("told(1)", x.told(1), 4);
    }

    // ---- promise 42

    private static void tolds(FivePlayers x, int... due) {
        for (int k = 1; k <= 5; k++) {
            Due.is("told(" + k + ")", x.told(k), due[k - 1]);
        }
    }

    private static void toldEach() {
        Due.promise(42, "How many acts have answered an ERROR LOW - k (k 1 .. 5)");
        FivePlayers x = Plays.of(10, 6);
        tolds(x, 0, 0, 0, 0, 0);
        Due.is("BEYOND", x.lines(9), -1000001);
        tolds(x, 1, 0, 0, 0, 0);
        Due.is("NONE", x.restore(), -1000002);
        Due.is("NONE", x.trace(0), -1000002);
        tolds(x, 1, 2, 0, 0, 0);
        Due.is("STATE", x.sheet(0, 8, -1), -1000003);
        tolds(x, 1, 2, 1, 0, 0);
        Due.is("FULL", x.part(0, 0), -1000004);
        Due.is("FULL", x.player(0, 0), -1000004);
        Due.is("FULL", x.player(0, 0), -1000004);
        tolds(x, 1, 2, 1, 3, 0);
        Due.is("KIND", x.as(0, 1), -1000005);
        tolds(x, 1, 2, 1, 3, 1);
        // telling it isn't counted
        tolds(x, 1, 2, 1, 3, 1);
    }

    private static void toldBeyond() {
        Due.promise(42, "BEYOND: another k (counted, too)");
        FivePlayers x = new FivePlayers();
        Due.outside("told", 1, 5, Due.BEYOND, x::told);
        tolds(x, 4, 0, 0, 0, 0);
        Due.is("told(0)", x.told(0), Due.BEYOND);
        Due.is("told(1), one more", x.told(1), 5);
        Due.is("told(6)", x.told(6), Due.BEYOND);
        Due.is("told(1), one more", x.told(1), 6);
    }

    private static void toldNoErrors() {
        Due.promise(42, "How many acts have answered an ERROR");
        FivePlayers x = Plays.of(2, 1);
        Due.is("a FAULT", Due.text(x, 0, "1+"), -12);
        Due.is("nobody", x.cast(0, -1), -1);
        Due.is("a number that looks like one", x.voice(0, 0, Due.KIND), Due.KIND);
        Due.is("a number below all of them", x.voice(0, 0, Due.MIN), Due.MIN);
        tell(x, 7);
        Due.is("a wrong number", x.check(0), 1);
        tolds(x, 0, 0, 0, 0, 0);
        Due.is("check(4)", x.check(4), Due.BEYOND);
        tolds(x, 1, 0, 0, 0, 0);
    }

    private static void errorsInLongs() {
        Due.term(42, "(in longs, too)");
        FivePlayers x = new FivePlayers();
        Due.is("castings(1)", x.castings(1), -1000001L);
        Due.is("castings(-1)", x.castings(-1), -1000001L);
        tolds(x, 2, 0, 0, 0, 0);
    }
}
