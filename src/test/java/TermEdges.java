/** Sentences of the TERMS, and the plain ones of some promises, that the other edges rest on without quoting them. */
final class TermEdges {
    /** Of each KIND the one above it. */
    private static final int[] ABOVE = {-1, 0, 0, 1, 2, 1};

    private TermEdges() { }

    static void run() {
        errors();
        errorsChangeNothing();
        errorsInOrder();
        kinds();
        looks();
        sides();
        linesInCommon();
        gifts();
        sums();
        products();
        allWorkedOut();
        barred();
        bodies();
        bodiesAbove();
        sheetsMissing();
        entrySides();
        canAndWish();
        twoWhat();
        barsWhat();
    }

    // ---- ERRORS

    private static void errors() {
        Due.term(42, "ERRORS are answers below -1000000: LOW is -1000000; LOW - 1 BEYOND, LOW - 2 NONE, "
                + "LOW - 3 STATE, LOW - 4 FULL, LOW - 5 KIND");
        FivePlayers x = Plays.of(1, 0);
        x.entry(0, 0, 9, 0);
        Due.is("BEYOND: part(6, 0)", x.part(6, 0), -1000001);
        Due.is("NONE: restore()", x.restore(), -1000002);
        Due.is("STATE: entry(0, 9, 9, 0)", x.entry(0, 9, 9, 0), -1000003);
        for (int i = 0; i < 20; i++) {
            x.tell(i);
        }
        Due.is("FULL: tell(0)", x.tell(0), -1000004);
        Due.is("KIND: as(0, 1)", x.as(0, 1), -1000005);
        for (int k = 1; k <= 5; k++) {
            Due.is("told(" + k + ")", x.told(k), 1);
        }
    }

    private static void errorsChangeNothing() {
        Due.term(8, "one that answers an ERROR changes nothing but what told() tells");
        FivePlayers x = Plays.of(1, 0);
        x.entry(0, 0, 9, 0);
        x.entry(0, 20, 29, 0);
        Due.is("shift(0, 15)", x.shift(0, 15), Due.STATE);
        Due.is("shift(0, 91)", x.shift(0, 91), Due.BEYOND);
        Due.is("entryIs(0, 1)", x.entryIs(0, 1), 0);
        Due.is("entryIs(0, 2)", x.entryIs(0, 2), 9);
        Due.is("told(1)", x.told(1), 1);
        Due.is("told(3)", x.told(3), 1);
    }

    private static void errorsInOrder() {
        Due.term(36, "Each act tells its ERRORS in the order in which they are asked");
        FivePlayers x = new FivePlayers();
        x.sheet(0, 8, 2);
        Due.is("move(0, -1, 4, 0, 1): no such SHEET", x.move(0, -1, 4, 0, 1), Due.BEYOND);
        Due.is("move(0, -1, 1, 0, 1): it is missing", x.move(0, -1, 1, 0, 1), Due.NONE);
        x.sheet(1, 16, 2);
        Due.is("move(0, -1, 1, 0, 1): unlike bits", x.move(0, -1, 1, 0, 1), Due.KIND);
        x.sheet(1, 8, 2);
        Due.is("move(0, -1, 1, 0, 1): i is below 0", x.move(0, -1, 1, 0, 1), Due.BEYOND);
        Due.is("move(0, 0, 1, 0, 1)", x.move(0, 0, 1, 0, 1), 1);
    }

    // ---- 1: PARTS, ENTRIES, PLAYERS

    private static void kinds() {
        Due.term(4, "0 PART, 1 SPOKEN under PART, 2 MUTE under PART, 3 OFF under SPOKEN, 4 MASKED under MUTE, "
                + "5 KING under SPOKEN");
        FivePlayers x = Plays.kinds();
        for (int kind = 0; kind < 6; kind++) {
            for (int other = 0; other < 6; other++) {
                boolean is = false;
                for (int above = kind; above >= 0; above = ABOVE[above]) {
                    is |= above == other;
                }
                Due.is("as(" + kind + ", " + other + ")", x.as(kind, other), is ? 0 : Due.KIND);
            }
        }
    }

    private static void looks() {
        Due.term(3, "they have a NEED (0 .. 9), an AGE (0 .. 99), a WIG (0 .. 9)");
        FivePlayers x = new FivePlayers();
        int[][] all = {{0, 0, 0, 0}, {9999, 9, 99, 9}, {9000, 9, 0, 0}, {990, 0, 99, 0}, {9, 0, 0, 9}, {1010, 1, 1, 0}};
        for (int part = 0; part < all.length; part++) {
            x.part(0, all[part][0]);
            for (int what = 1; what <= 3; what++) {
                Due.is("partIs(" + part + ", " + what + ") of " + all[part][0], x.partIs(part, what), all[part][what]);
            }
        }
    }

    private static void sides() {
        Due.term(17, "comes from a side (0, 1) and goes to a side");
        for (int first = 0; first < 4; first++) {
            for (int later = 0; later < 4; later++) {
                FivePlayers x = Plays.of(2, 0);
                Plays.take(x, 1, "s*3");
                x.entry(1, 20, 22, later);
                x.entry(0, 10, 17, first);
                // two LINES between them: too few for the same side only
                boolean same = first % 2 == later / 2;
                Due.is("sides " + first + " then " + later, x.two(0, 1, 0), same ? 3 : 0);
                Due.is("the same two", x.two(1, 0, 1), same ? 20 : Due.NONE);
            }
        }
    }

    private static void linesInCommon() {
        Due.term(6, "No two of one PART have a LINE in common");
        FivePlayers x = Plays.of(2, 0);
        x.entry(0, 10, 19, 0);
        Due.is("its first LINE", x.entry(0, 0, 10, 0), Due.STATE);
        Due.is("its last LINE", x.entry(0, 19, 30, 0), Due.STATE);
        Due.is("within it", x.entry(0, 12, 13, 0), Due.STATE);
        Due.is("around it", x.entry(0, 0, 99, 0), Due.STATE);
        Due.is("the same LINES", x.entry(0, 10, 19, 3), Due.STATE);
        Due.is("just ahead of it", x.entry(0, 9, 9, 0), 1);
        Due.is("just behind it", x.entry(0, 20, 20, 0), 2);
        Due.is("of another PART", x.entry(1, 10, 19, 0), 3);
    }

    private static void gifts() {
        Due.term(10, "PLAYERS 0, 1, .. (at most 6) have a GIFT (0 .. 9), an AGE (0 .. 99)");
        FivePlayers x = Plays.of(1, 0);
        Plays.take(x, 2, "g*100+a");
        int[][] all = {{0, 0}, {9, 99}, {9, 0}, {0, 99}, {1, 2}, {5, 50}};
        for (int player = 0; player < all.length; player++) {
            Due.is("player", x.player(all[player][0], all[player][1]), player);
            Due.is("its wish", x.wish(player, 0), 100 * all[player][0] + all[player][1]);
        }
        Due.is("a seventh one", x.player(0, 0), Due.FULL);
    }

    // ---- 2: TEXTS

    /** WISH of a PLAYER of GIFT 7 for a PART of KIND 0. */
    private static void wish(String signs, int due) {
        FivePlayers x = Plays.of(1, 0);
        x.player(7, 0);
        Due.is("text of " + signs, Plays.take(x, 2, signs), 1);
        Due.is("wish by " + signs, x.wish(0, 0), due);
    }

    private static void sums() {
        Due.term(13, "S: P { + P, - P }.");
        wish("9-3-2", 4);
        wish("9-3+2", 8);
        wish("9+3-2", 10);
        wish("9-(3-2)", 8);
        wish("9-3*2", 3);
        wish("1+2+3+4", 10);
        wish("20-g-1", 12);
    }

    private static void products() {
        Due.term(13, "P: Q { * Q, / Q, % Q }.");
        wish("100/7/2", 7);
        wish("100%7%2", 0);
        wish("g*3%4", 1);
        wish("7%4*3", 9);
        wish("9/2*2", 8);
        wish("9/(2*2)", 2);
        wish("5+g%4*2", 11);
    }

    private static void allWorkedOut() {
        Due.term(13, "all is worked out");
        wish("0&1/0", 0);
        wish("1|1/0", 1);
        wish("1/0|1%0|5", 1);
        wish("1&2&!3", 0);
    }

    // ---- 3: BARRED

    private static void barred() {
        Due.term(29, "Two that MEET or are TOO NEAR are BARRED: nobody can play both.");
        FivePlayers x = Plays.of(2, 1);
        x.entry(0, 0, 9, 0);
        x.entry(1, 9, 12, 0);
        int[] castings = {0, 0, 0, 1};
        // WIGS are alike, so a change takes two LINES: behind the first shift none lies between, then one, then two
        for (int i = 0; i < castings.length; i++) {
            Due.is("two() with " + (i - 1) + " between", x.two(0, 1, 0), i == 0 ? 2 : i < 3 ? 3 : 0);
            Due.is("castings with " + (i - 1) + " between", x.castings(1), castings[i]);
            Due.is("fewest with " + (i - 1) + " between", x.fewest(), 2 - castings[i]);
            x.shift(1, 1);
        }
    }

    // ---- 7: VOICES

    private static void voice(FivePlayers x, int part, int act, int due, int... bodies) {
        String call = "voice(" + part + ", " + act + ", 10)";
        Due.is(call, x.voice(part, act, 10), due);
        Due.is("BODIES of " + call, x.count(6), bodies.length);
        for (int i = 0; i < bodies.length; i++) {
            Due.is("trace(" + i + ") of " + call, x.trace(i), bodies[i]);
        }
    }

    /** PART n + 1 is of KIND n and has WIG n + 2. */
    private static FivePlayers voices() {
        FivePlayers x = new FivePlayers();
        x.part(0, 0);
        for (int kind = 0; kind < 6; kind++) {
            x.part(kind, kind + 2);
        }
        return x;
    }

    private static void bodies() {
        Due.term(32, "0 speak, 1 walk, 2 die, 3 bow. BODIES: PART: 10 speak: x + n. 11 walk: speak(x) * 2. "
                + "12 die: x - w. 13 bow: walk(x) ^ die(x). SPOKEN: 20 walk: super.walk(x) + die(x). "
                + "MUTE: 30 speak: super.speak(x) - 1. 31 bow: super.bow(x + 1).");
        FivePlayers x = voices();
        voice(x, 1, 0, 11, 10);
        voice(x, 1, 1, 22, 11, 10);
        voice(x, 1, 2, 8, 12);
        voice(x, 1, 3, 30, 13, 11, 10, 12);
        voice(x, 2, 0, 12, 10);
        voice(x, 2, 1, 31, 20, 11, 10, 12);
        voice(x, 2, 2, 7, 12);
        voice(x, 2, 3, 24, 13, 20, 11, 10, 12, 12);
        voice(x, 3, 0, 12, 30, 10);
        voice(x, 3, 1, 24, 11, 30, 10);
        voice(x, 3, 2, 6, 12);
        voice(x, 3, 3, 29, 31, 13, 11, 30, 10, 12);
    }

    private static void bodiesAbove() {
        Due.term(32, "OFF: 40 die: super.die(x) * 3. 41 walk: super.walk(x - w). MASKED: 50 bow: die(x) - "
                + "super.bow(x). KING: 60 speak: super.speak(x) ^ 5. 61 walk: super.walk(x) + speak(1).");
        Due.term(32, "super.speak(..) that from the KIND above the BODY's on");
        FivePlayers x = voices();
        voice(x, 4, 0, 14, 10);
        voice(x, 4, 1, 18, 41, 20, 11, 10, 40, 12);
        voice(x, 4, 2, 15, 40, 12);
        voice(x, 4, 3, 29, 13, 41, 20, 11, 10, 40, 12, 40, 12);
        voice(x, 5, 0, 14, 30, 10);
        voice(x, 5, 1, 28, 11, 30, 10);
        voice(x, 5, 2, 4, 12);
        voice(x, 5, 3, -23, 50, 12, 31, 13, 11, 30, 10, 12);
        voice(x, 6, 0, 21, 60, 10);
        voice(x, 6, 1, 47, 61, 20, 11, 60, 10, 12, 60, 10);
        voice(x, 6, 2, 3, 12);
        voice(x, 6, 3, 44, 13, 61, 20, 11, 60, 10, 12, 60, 10, 12);
    }

    // ---- 8: SHEETS

    private static void sheetsMissing() {
        Due.term(34, "or missing (as at first)");
        FivePlayers x = new FivePlayers();
        for (int sheet = 0; sheet < 4; sheet++) {
            Due.is("block(" + sheet + ")", x.block(sheet), Due.NONE);
            Due.is("put(" + sheet + ", 0, 0)", x.put(sheet, 0, 0), Due.NONE);
            Due.is("move(" + sheet + ", 0, " + sheet + ", 0, 0)", x.move(sheet, 0, sheet, 0, 0), Due.NONE);
            Due.is("sheet(" + sheet + ", 0, 0)", x.sheet(sheet, 0, 0), 1);
        }
    }

    // ---- promises

    private static void entrySides() {
        Due.promise(6, "sides: 2 times that from which it comes, and that to which it goes");
        FivePlayers x = Plays.of(1, 0);
        for (int sides = 0; sides < 4; sides++) {
            Due.is("entry", x.entry(0, 10 * sides, 10 * sides, sides), sides);
            Due.is("its sides", x.entryIs(sides, 3), sides);
        }
    }

    private static void canAndWish() {
        Due.promise(12, "1 if a PLAYER can play a PART, else 0");
        FivePlayers x = new FivePlayers();
        x.part(0, 4000);
        x.player(3, 0);
        x.player(4, 0);
        x.player(5, 0);
        for (int player = 0; player < 3; player++) {
            Due.is("can(" + player + ", 0)", x.can(player, 0), player == 0 ? 0 : 1);
        }
        Due.promise(13, "WISH of a PLAYER for a PART");
        for (int player = 0; player < 3; player++) {
            Due.is("wish(" + player + ", 0)", x.wish(player, 0), 3 + player);
        }
    }

    private static void twoWhat() {
        Due.promise(17, "2 they MEET, 3 they are TOO NEAR; 1 the LINE of that");
        FivePlayers x = Plays.of(3, 0);
        x.entry(0, 0, 9, 0);
        x.entry(1, 7, 12, 0);
        x.entry(2, 14, 15, 0);
        int[][] due = {{0, 1, 2, 7}, {1, 2, 3, 14}, {0, 2, 0, Due.NONE}};
        for (int[] d : due) {
            Due.is("two(" + d[0] + ", " + d[1] + ", 0)", x.two(d[0], d[1], 0), d[2]);
            Due.is("two(" + d[1] + ", " + d[0] + ", 0)", x.two(d[1], d[0], 0), d[2]);
            Due.is("two(" + d[0] + ", " + d[1] + ", 1)", x.two(d[0], d[1], 1), d[3]);
            Due.is("two(" + d[1] + ", " + d[0] + ", 1)", x.two(d[1], d[0], 1), d[3]);
        }
    }

    private static void barsWhat() {
        Due.promise(20, "1 PART p, 2 PART q, 3 the LINE");
        FivePlayers x = Plays.of(3, 1);
        x.entry(0, 50, 55, 0);
        x.entry(1, 0, 9, 0);
        x.entry(2, 11, 15, 0);
        bars(x, 0, Due.NONE, Due.NONE, Due.NONE);
        x.cast(1, 0);
        x.cast(2, 0);
        bars(x, 3, 1, 2, 11);
        x.shift(2, -2);
        bars(x, 2, 1, 2, 9);
        x.part(0, 6000);
        x.cast(3, 0);
        x.cast(2, -1);
        bars(x, 1, 3, Due.NONE, Due.NONE);
    }

    private static void bars(FivePlayers x, int... due) {
        for (int what = 0; what < 4; what++) {
            Due.is("bars(" + what + ")", x.bars(what), due[what]);
        }
    }
}
