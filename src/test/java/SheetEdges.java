/** Promises 34 to 36, sentence by sentence: sheet, put, move. block() and cast() read the numbers back. */
final class SheetEdges {
    private SheetEdges() { }

    static void run() {
        sheetZeros();
        sheetMissing();
        sheetSizes();
        sheetBeyond();
        sheetState();
        sheetKeeps();
        putEnds();
        putBits();
        putBeyond();
        putNone();
        putOrder();
        moveNumbers();
        moveAsTheyWere();
        moveNothing();
        moveBeyondSheet();
        moveNone();
        moveKind();
        moveBeyond();
        moveRound();
        moveOrder();
    }

    /** The numbers of a SHEET, at most ten, each -1 .. 5, as block() tells them to THE CAST. */
    private static void numbers(FivePlayers x, int sheet, int... due) {
        Due.is("block(" + sheet + ")", x.block(sheet), due.length);
        for (int i = 0; i < due.length; i++) {
            Due.is("number " + i + " of " + sheet, x.cast(i, -1), due[i]);
        }
    }

    private static void fill(FivePlayers x, int sheet, int bits, int... numbers) {
        x.sheet(sheet, bits, numbers.length);
        for (int i = 0; i < numbers.length; i++) {
            x.put(sheet, i, numbers[i]);
        }
    }

    // ---- promise 34

    private static void sheetZeros() {
        Due.promise(34, "A SHEET has n numbers, all 0, of so many bits (8, 16, 32");
        FivePlayers x = Plays.of(10, 6);
        for (int bits = 8; bits <= 32; bits *= 2) {
            Due.is("sheet(0, " + bits + ", 5)", x.sheet(0, bits, 5), 1);
            numbers(x, 0, 0, 0, 0, 0, 0);
            fill(x, 0, bits, 1, 2, 3);
            Due.is("sheet(0, " + bits + ", 3), the same again", x.sheet(0, bits, 3), 1);
            numbers(x, 0, 0, 0, 0);
            fill(x, 0, bits, 1, 2, 3, 4, 5);
            Due.is("fewer", x.sheet(0, bits, 1), 1);
            Due.is("more", x.sheet(0, bits, 5), 1);
            numbers(x, 0, 0, 0, 0, 0, 0);
        }
    }

    private static void sheetMissing() {
        Due.promise(34, "0: it is missing, n doesn't matter): 1");
        FivePlayers x = Plays.of(1, 1);
        int[] any = {0, 1, 24, 25, -1, Due.MIN, Due.MAX};
        for (int n : any) {
            x.sheet(1, 8, 3);
            Due.is("sheet(1, 0, " + n + ")", x.sheet(1, 0, n), 1);
            Due.is("put(1, 0, 0)", x.put(1, 0, 0), Due.NONE);
            Due.is("block(1)", x.block(1), Due.NONE);
        }
        Due.is("missing, missing again", x.sheet(1, 0, 0), 1);
        Due.is("here again", x.sheet(1, 8, 1), 1);
        Due.is("put(1, 0, 0)", x.put(1, 0, 0), 1);
    }

    private static void sheetSizes() {
        Due.term(34, "SHEETS 0 .. 3 are rows of 8, 16, 32 bits, at most 24 numbers");
        FivePlayers x = new FivePlayers();
        for (int sheet = 0; sheet < 4; sheet++) {
            for (int bits = 8; bits <= 32; bits *= 2) {
                Due.is("no numbers", x.sheet(sheet, bits, 0), 1);
                Due.is("put(.., 0, 0)", x.put(sheet, 0, 0), Due.BEYOND);
                Due.is("one number", x.sheet(sheet, bits, 1), 1);
                Due.is("put(.., 0, 0)", x.put(sheet, 0, 0), 1);
                Due.is("put(.., 1, 0)", x.put(sheet, 1, 0), Due.BEYOND);
                Due.is("24 numbers", x.sheet(sheet, bits, 24), 1);
                Due.is("put(.., 23, 0)", x.put(sheet, 23, 0), 1);
                Due.is("put(.., 24, 0)", x.put(sheet, 24, 0), Due.BEYOND);
            }
        }
    }

    private static void sheetBeyond() {
        Due.promise(34, "BEYOND");
        FivePlayers x = new FivePlayers();
        Due.outside("sheet, sheet", 0, 3, Due.BEYOND, sheet -> x.sheet(sheet, 8, 1));
        Due.outside("sheet, sheet, bits 0", 0, 3, Due.BEYOND, sheet -> x.sheet(sheet, 0, 1));
        int[] wrong = {-1, 1, 4, 7, 9, 15, 17, 24, 31, 33, 64, -8, -32, Due.MIN, Due.MAX};
        for (int bits : wrong) {
            Due.is("sheet(0, " + bits + ", 1)", x.sheet(0, bits, 1), Due.BEYOND);
        }
        for (int bits = 8; bits <= 32; bits *= 2) {
            Due.is("25 numbers", x.sheet(0, bits, 25), Due.BEYOND);
            Due.is("the most there could be", x.sheet(0, bits, Due.MAX), Due.BEYOND);
        }
        Due.is("put(0, 0, 0), still missing", x.put(0, 0, 0), Due.NONE);
    }

    private static void sheetState() {
        Due.promise(34, "STATE: n is below 0 (ahead of BEYOND of n)");
        FivePlayers x = new FivePlayers();
        for (int bits = 8; bits <= 32; bits *= 2) {
            Due.is("n -1", x.sheet(0, bits, -1), Due.STATE);
            Due.is("the least n", x.sheet(3, bits, Due.MIN), Due.STATE);
        }
        Due.is("no such SHEET, n -1", x.sheet(4, 8, -1), Due.BEYOND);
        Due.is("no such SHEET, n -1", x.sheet(-1, 8, -1), Due.BEYOND);
        Due.is("no such bits, n -1", x.sheet(0, 9, -1), Due.BEYOND);
        Due.is("put(0, 0, 0), still missing", x.put(0, 0, 0), Due.NONE);
        Due.is("told(3)", x.told(3), 6);
    }

    private static void sheetKeeps() {
        Due.promise(34, "BEYOND. STATE");
        FivePlayers x = Plays.of(10, 6);
        fill(x, 2, 16, 3, 1, 2);
        x.sheet(2, 8, 25);
        x.sheet(2, 8, -1);
        x.sheet(2, 12, 1);
        x.sheet(4, 8, 1);
        numbers(x, 2, 3, 1, 2);
        x.put(2, 0, 0x104);
        Due.is("block(2), it has 16 bits still", x.block(2), Due.KIND);
        fill(x, 1, 8, 1);
        x.sheet(0, 8, 3);
        x.sheet(3, 8, 3);
        numbers(x, 1, 1);
    }

    // ---- promise 35

    private static void putEnds() {
        Due.promise(35, "Number i of a SHEET becomes v");
        FivePlayers x = Plays.of(10, 6);
        x.sheet(0, 8, 10);
        Due.is("the first one", x.put(0, 0, 5), 1);
        Due.is("the last one", x.put(0, 9, 4), 1);
        numbers(x, 0, 5, 0, 0, 0, 0, 0, 0, 0, 0, 4);
        Due.is("another one in its place", x.put(0, 9, -1), 1);
        numbers(x, 0, 5, 0, 0, 0, 0, 0, 0, 0, 0, -1);
        // each SHEET has its own numbers
        x.sheet(1, 8, 10);
        x.put(1, 5, 3);
        numbers(x, 0, 5, 0, 0, 0, 0, 0, 0, 0, 0, -1);
        numbers(x, 1, 0, 0, 0, 0, 0, 3, 0, 0, 0, 0);
    }

    /** What block() makes of v in so many bits: a PLAYER, -1, or KIND for any other number. */
    private static void becomes(int bits, int v, int due) {
        FivePlayers x = Plays.of(1, 6);
        x.sheet(0, bits, 1);
        Due.is("put(0, 0, " + v + ")", x.put(0, 0, v), 1);
        boolean wrong = due == Due.KIND;
        Due.is(v + " in " + bits + " bits, block", x.block(0), wrong ? Due.KIND : 1);
        Due.is(v + " in " + bits + " bits", x.cast(0, -1), wrong ? -1 : due);
    }

    private static void putBits() {
        Due.promise(35, "(its lowest bits, with sign): 1");
        int[] bits = {8, 16, 32};
        int[][] due = {
            {0, 0, 0, 0}, {5, 5, 5, 5}, {-1, -1, -1, -1}, {127, Due.KIND, Due.KIND, Due.KIND},
            {128, Due.KIND, Due.KIND, Due.KIND}, {255, -1, Due.KIND, Due.KIND}, {256, 0, Due.KIND, Due.KIND},
            {261, 5, Due.KIND, Due.KIND}, {262, Due.KIND, Due.KIND, Due.KIND}, {-256, 0, Due.KIND, Due.KIND},
            {-251, 5, Due.KIND, Due.KIND}, {-257, -1, Due.KIND, Due.KIND}, {32767, -1, Due.KIND, Due.KIND},
            {32768, 0, Due.KIND, Due.KIND}, {65535, -1, -1, Due.KIND}, {65536, 0, 0, Due.KIND},
            {65541, 5, 5, Due.KIND}, {-65536, 0, 0, Due.KIND}, {-65537, -1, -1, Due.KIND},
            {Due.MAX, -1, -1, Due.KIND}, {Due.MIN, 0, 0, Due.KIND}};
        for (int[] each : due) {
            for (int i = 0; i < 3; i++) {
                becomes(bits[i], each[0], each[1 + i]);
            }
        }
    }

    private static void putBeyond() {
        Due.promise(35, "BEYOND: no such number");
        FivePlayers x = new FivePlayers();
        for (int sheet = 0; sheet < 4; sheet++) {
            int of = sheet;
            x.sheet(sheet, 8, 3 + sheet);
            Due.outside("put, i", 0, 2 + sheet, Due.BEYOND, i -> x.put(of, i, 0));
        }
        x.sheet(0, 8, 0);
        Due.outside("put, i, of no numbers", 0, -1, Due.BEYOND, i -> x.put(0, i, 0));
    }

    private static void putNone() {
        Due.promise(35, "BEYOND: no such SHEET. NONE: it is missing");
        FivePlayers x = new FivePlayers();
        Due.outside("put, sheet", 0, 3, Due.BEYOND, sheet -> x.put(sheet, 0, 0));
        for (int sheet = 0; sheet < 4; sheet++) {
            Due.is("missing", x.put(sheet, 0, 0), Due.NONE);
        }
    }

    private static void putOrder() {
        Due.promise(35, "NONE: it is missing. BEYOND: no such number");
        FivePlayers x = new FivePlayers();
        Due.is("no such SHEET, no such number", x.put(4, -1, 0), Due.BEYOND);
        Due.is("missing, no such number", x.put(0, -1, 0), Due.NONE);
        Due.is("missing, no such number", x.put(0, 24, 0), Due.NONE);
        x.sheet(0, 8, 24);
        Due.is("no such number", x.put(0, 24, 0), Due.BEYOND);
        Due.is("told(1)", x.told(1), 2);
        Due.is("told(2)", x.told(2), 2);
    }

    // ---- promise 36

    private static void moveNumbers() {
        Due.promise(36, "n numbers of a SHEET, from number i on, come to another one (or the same), from its number j on");
        for (int bits = 8; bits <= 32; bits *= 2) {
            FivePlayers x = Plays.of(10, 6);
            fill(x, 0, bits, 0, 1, 2, 3, 4, 5);
            fill(x, 1, bits, -1, -1, -1);
            Due.is("the last two", x.move(0, 4, 1, 1, 2), 2);
            numbers(x, 1, -1, 4, 5);
            numbers(x, 0, 0, 1, 2, 3, 4, 5);
            Due.is("as many as the other one has", x.move(0, 1, 1, 0, 3), 3);
            numbers(x, 1, 1, 2, 3);
            Due.is("back, all", x.move(1, 0, 0, 3, 3), 3);
            numbers(x, 0, 0, 1, 2, 1, 2, 3);
            Due.is("one", x.move(1, 2, 0, 0, 1), 1);
            numbers(x, 0, 3, 1, 2, 1, 2, 3);
        }
        FivePlayers y = Plays.of(10, 6);
        y.sheet(2, 32, 24);
        y.sheet(3, 32, 24);
        y.put(2, 23, 5);
        Due.is("all 24", y.move(2, 0, 3, 0, 24), 24);
        Due.is("the last one to the front", y.move(3, 23, 3, 0, 1), 1);
        numbers(y, 3, 5, 0, 0, 0, 0, 0, 0, 0, 0, 0);
    }

    private static void moveAsTheyWere() {
        Due.promise(36, "as they all were: n");
        for (int bits = 8; bits <= 32; bits *= 2) {
            FivePlayers x = Plays.of(10, 6);
            fill(x, 0, bits, 0, 1, 2, 3, 4, 5);
            Due.is("up by one", x.move(0, 0, 0, 1, 5), 5);
            numbers(x, 0, 0, 0, 1, 2, 3, 4);
            fill(x, 0, bits, 0, 1, 2, 3, 4, 5);
            Due.is("down by one", x.move(0, 1, 0, 0, 5), 5);
            numbers(x, 0, 1, 2, 3, 4, 5, 5);
            Due.is("where they are", x.move(0, 0, 0, 0, 6), 6);
            numbers(x, 0, 1, 2, 3, 4, 5, 5);
        }
    }

    private static void moveNothing() {
        Due.promise(36, "or they don't stand there (of 0 numbers, too)");
        FivePlayers x = Plays.of(10, 6);
        fill(x, 0, 8, 1, 2, 3);
        fill(x, 1, 8, 4, 5);
        Due.is("none, at the starts", x.move(0, 0, 1, 0, 0), 0);
        Due.is("none, at the ends", x.move(0, 3, 1, 2, 0), 0);
        Due.is("none, i behind the end", x.move(0, 4, 1, 0, 0), Due.BEYOND);
        Due.is("none, j behind the end", x.move(0, 0, 1, 3, 0), Due.BEYOND);
        Due.is("none, i -1", x.move(0, -1, 1, 0, 0), Due.BEYOND);
        Due.is("none, j -1", x.move(0, 0, 1, -1, 0), Due.BEYOND);
        x.sheet(2, 8, 0);
        Due.is("none of none", x.move(2, 0, 2, 0, 0), 0);
        Due.is("none of none, i 1", x.move(2, 1, 2, 0, 0), Due.BEYOND);
        Due.is("one of none", x.move(2, 0, 0, 0, 1), Due.BEYOND);
        Due.is("one to none", x.move(0, 0, 2, 0, 1), Due.BEYOND);
        numbers(x, 1, 4, 5);
    }

    private static void moveBeyondSheet() {
        Due.promise(36, "BEYOND: no such SHEET");
        FivePlayers x = new FivePlayers();
        for (int sheet = 0; sheet < 4; sheet++) {
            x.sheet(sheet, 8, 1);
        }
        Due.outside("move, sheet", 0, 3, Due.BEYOND, sheet -> x.move(sheet, 0, 0, 0, 0));
        Due.outside("move, other", 0, 3, Due.BEYOND, other -> x.move(0, 0, other, 0, 0));
        Due.is("move from 0 to 3", x.move(0, 0, 3, 0, 1), 1);
        Due.is("move from 3 to 0", x.move(3, 0, 0, 0, 1), 1);
    }

    private static void moveNone() {
        Due.promise(36, "NONE: one is missing");
        FivePlayers x = new FivePlayers();
        Due.is("both are missing", x.move(0, 0, 1, 0, 0), Due.NONE);
        x.sheet(0, 8, 1);
        Due.is("the other is missing", x.move(0, 0, 1, 0, 0), Due.NONE);
        Due.is("this one is missing", x.move(1, 0, 0, 0, 0), Due.NONE);
        Due.is("one and itself, missing", x.move(1, 0, 1, 0, 0), Due.NONE);
        Due.is("one and itself", x.move(0, 0, 0, 0, 0), 0);
    }

    private static void moveKind() {
        Due.promise(36, "KIND: they are of unlike bits");
        int[] bits = {8, 16, 32};
        for (int a : bits) {
            for (int b : bits) {
                FivePlayers x = Plays.of(10, 6);
                fill(x, 0, a, 1, 2);
                fill(x, 3, b, 3, 4);
                Due.is(a + " to " + b + " bits", x.move(0, 0, 3, 0, 2), a == b ? 2 : Due.KIND);
                Due.is(a + " to " + b + " bits, none", x.move(0, 0, 3, 0, 0), a == b ? 0 : Due.KIND);
                numbers(x, 3, a == b ? 1 : 3, a == b ? 2 : 4);
            }
        }
    }

    private static void moveBeyond() {
        Due.promise(36, "BEYOND: n, i, or j is below 0, or they don't stand there");
        FivePlayers x = Plays.of(10, 6);
        fill(x, 0, 8, 1, 2, 3, 4);
        fill(x, 1, 8, 5, 5, 5, 5, 5);
        Due.outside("move, n", 0, 4, Due.BEYOND, n -> x.move(0, 0, 1, 0, n));
        Due.outside("move, n, from 1 to 0", 0, 4, Due.BEYOND, n -> x.move(1, 0, 0, 0, n));
        Due.outside("move, i", 0, 3, Due.BEYOND, i -> x.move(0, i, 1, 0, 1));
        Due.outside("move, j", 0, 4, Due.BEYOND, j -> x.move(0, 0, 1, j, 1));
        Due.outside("move, i, n 2", 0, 2, Due.BEYOND, i -> x.move(0, i, 1, 0, 2));
        Due.outside("move, j, n 2", 0, 3, Due.BEYOND, j -> x.move(0, 0, 1, j, 2));
        numbers(x, 1, 5, 5, 5, 5, 5);
        Due.is("the last ones that stand there", x.move(0, 2, 1, 3, 2), 2);
        numbers(x, 1, 5, 5, 5, 3, 4);
    }

    private static void moveRound() {
        Due.promise(36, "or they don't stand there");
        FivePlayers x = Plays.of(10, 6);
        fill(x, 0, 8, 1, 2, 3, 4);
        // i and n, or j and n, would go round to what is there
        Due.is("i and n", x.move(0, Due.MAX, 0, 0, Due.MAX), Due.BEYOND);
        Due.is("i goes round", x.move(0, Due.MAX, 0, 0, 1), Due.BEYOND);
        Due.is("i goes round, 4", x.move(0, Due.MAX - 3, 0, 0, 4), Due.BEYOND);
        Due.is("j goes round", x.move(0, 0, 0, Due.MAX, 2), Due.BEYOND);
        Due.is("the least i", x.move(0, Due.MIN, 0, 0, 0), Due.BEYOND);
        Due.is("the least j", x.move(0, 0, 0, Due.MIN, 1), Due.BEYOND);
        Due.is("the least n", x.move(0, 0, 0, 0, Due.MIN), Due.BEYOND);
        Due.is("i 4, n -1", x.move(0, 4, 0, 4, -1), Due.BEYOND);
        numbers(x, 0, 1, 2, 3, 4);
    }

    private static void moveOrder() {
        Due.promise(36, "BEYOND: no such SHEET. NONE: one is missing. KIND: they are of unlike bits. BEYOND");
        FivePlayers x = new FivePlayers();
        x.sheet(0, 8, 1);
        x.sheet(1, 16, 1);
        Due.is("missing, no such other", x.move(2, 0, 4, 0, 1), Due.BEYOND);
        Due.is("no such, missing other", x.move(-1, 0, 2, 0, 1), Due.BEYOND);
        Due.is("missing, n -1", x.move(0, 0, 2, 0, -1), Due.NONE);
        Due.is("unlike bits, n -1", x.move(0, 0, 1, 0, -1), Due.KIND);
        Due.is("unlike bits, too many", x.move(1, 0, 0, 0, 2), Due.KIND);
        Due.is("too many", x.move(0, 0, 0, 0, 2), Due.BEYOND);
    }
}
