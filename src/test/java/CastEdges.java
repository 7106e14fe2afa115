/** Promises 17 to 21 and terms 3 and 4, sentence by sentence: two, cast, block, bars, busy. */
final class CastEdges {
    private CastEdges() { }

    static void run() {
        twoNothing();
        twoMeet();
        twoMeetFirst();
        twoNear();
        twoNearEnds();
        twoNearLeast();
        twoMeetAhead();
        twoMasked();
        twoMaskedBoth();
        twoOff();
        twoOffNear();
        twoFromThat();
        twoSides();
        twoBeyond();
        twoNone();
        castNobody();
        castWas();
        castBeyond();
        blockNumbers();
        blockFewer();
        blockBits();
        blockBeyond();
        blockNone();
        blockKind();
        blockOrder();
        barsNothing();
        barsCannot();
        barsTwo();
        barsFirst();
        barsLater();
        barsNobody();
        barsBeyond();
        barsNone();
        busyOnce();
        busyEnds();
        busyBeyond();
    }

    private static void two(FivePlayers x, int a, int b, int how, int line) {
        String pair = "two(" + a + ", " + b + ", ";
        Due.is(pair + "0)", x.two(a, b, 0), how);
        Due.is(pair + "0), the other way", x.two(b, a, 0), how);
        Due.is(pair + "1)", x.two(a, b, 1), how == 0 ? Due.NONE : line);
        Due.is(pair + "1), the other way", x.two(b, a, 1), how == 0 ? Due.NONE : line);
    }

    /** Two PARTS of kinds, the first one's ENTRY ends with 9, so many LINES ahead of the other one's. */
    private static FivePlayers pair(int kind, int other, int between, String change, int sides) {
        FivePlayers x = new FivePlayers();
        x.lines(200);
        x.part(kind, 0);
        x.part(other, 0);
        x.entry(0, 9, 9, sides);
        x.entry(1, 10 + between, 10 + between, 0);
        Due.is("text(1) of " + change, Due.text(x, 1, change), 1);
        return x;
    }

    /** Of CHANGE so many LINES count: fewer are TOO NEAR, whether it goes to the side from which it comes or not. */
    private static void counts(int kind, int other, int change, int counted) {
        for (int sides = 0; sides < 2; sides++) {
            if (counted > 0) {
                two(pair(kind, other, counted - 1, "" + change, sides), 0, 1, 3, 9 + counted);
            }
            two(pair(kind, other, counted, "" + change, sides), 0, 1, 0, 0);
        }
    }

    // ---- promise 17

    private static void twoNothing() {
        Due.promise(17, "0 they aren't BARRED");
        FivePlayers x = Plays.of(3, 0);
        two(x, 0, 1, 0, 0);
        x.entry(0, 0, 99, 0);
        two(x, 0, 1, 0, 0);
        two(x, 1, 2, 0, 0);
        x.entry(1, 50, 50, 0);
        two(x, 0, 1, 2, 50);
        two(x, 0, 2, 0, 0);
    }

    private static void twoMeet() {
        Due.term(17, "TWO PARTS MEET, if there is a LINE on which both are on");
        FivePlayers x = Plays.of(2, 0);
        x.entry(0, 10, 19, 0);
        x.entry(1, 19, 30, 0);
        two(x, 0, 1, 2, 19);
        x.shift(1, 1);
        two(x, 0, 1, 3, 20);
        x.shift(1, -20);
        two(x, 0, 1, 2, 10);
        x.shift(0, 80);
        two(x, 0, 1, 0, 0);
        x.entry(1, 99, 99, 0);
        two(x, 0, 1, 2, 99);
        FivePlayers y = Plays.of(2, 0);
        y.entry(0, 0, 0, 0);
        y.entry(1, 0, 0, 0);
        two(y, 0, 1, 2, 0);
    }

    private static void twoMeetFirst() {
        Due.term(17, "on the first LINE on which both are on");
        FivePlayers x = Plays.of(2, 0);
        x.entry(0, 60, 69, 0);
        x.entry(1, 65, 70, 0);
        two(x, 0, 1, 2, 65);
        x.entry(1, 30, 39, 0);
        x.entry(0, 20, 31, 0);
        two(x, 0, 1, 2, 30);
        x.entry(0, 0, 10, 0);
        x.entry(1, 10, 11, 0);
        two(x, 0, 1, 2, 10);
        x.entry(1, 0, 0, 0);
        two(x, 0, 1, 2, 0);
    }

    private static void twoNear() {
        Due.term(17, "there are fewer LINES than CHANGE is from that to this");
        counts(0, 0, 0, 0);
        counts(0, 0, 1, 1);
        counts(0, 0, 2, 2);
        counts(0, 0, 98, 98);
        counts(0, 0, 99, 99);
        // without a TEXT: 2 and the difference of WIGS
        FivePlayers x = new FivePlayers();
        x.part(0, 9);
        x.part(0, 0);
        x.entry(0, 0, 9, 0);
        x.entry(1, 20, 29, 0);
        two(x, 0, 1, 3, 20);
        x.shift(1, 1);
        two(x, 0, 1, 0, 0);
    }

    private static void twoNearEnds() {
        Due.term(17, "between some ENTRY of one and some later ENTRY of the other one");
        FivePlayers x = Plays.of(2, 0);
        x.lines(10);
        x.entry(0, 0, 0, 0);
        x.entry(1, 1, 1, 0);
        two(x, 0, 1, 3, 1);
        x.shift(1, 1);
        two(x, 0, 1, 3, 2);
        x.shift(1, 1);
        two(x, 0, 1, 0, 0);
        x.shift(1, 6);
        x.shift(0, 8);
        two(x, 0, 1, 3, 9);
        // two ENTRIES of one PART are not too near one another
        FivePlayers y = Plays.of(2, 0);
        y.entry(0, 0, 0, 0);
        y.entry(0, 1, 1, 0);
        y.entry(1, 50, 50, 0);
        two(y, 0, 1, 0, 0);
    }

    private static void twoNearLeast() {
        Due.term(17, "on the LINE with which the later ENTRY begins; of several the least");
        FivePlayers x = Plays.of(2, 0);
        x.entry(0, 50, 59, 0);
        x.entry(1, 61, 69, 0);
        two(x, 0, 1, 3, 61);
        x.entry(0, 70, 79, 0);
        two(x, 0, 1, 3, 61);
        x.entry(1, 30, 39, 0);
        x.entry(0, 41, 44, 0);
        two(x, 0, 1, 3, 41);
        x.entry(0, 28, 28, 0);
        two(x, 0, 1, 3, 30);
        x.entry(1, 0, 0, 0);
        x.entry(0, 2, 2, 0);
        two(x, 0, 1, 3, 2);
    }

    private static void twoMeetAhead() {
        Due.term(17, "They are TOO NEAR, if they don't MEET");
        FivePlayers x = Plays.of(2, 0);
        x.entry(0, 0, 9, 0);
        x.entry(1, 10, 19, 0);
        two(x, 0, 1, 3, 10);
        x.entry(0, 90, 99, 0);
        x.entry(1, 99, 99, 0);
        two(x, 0, 1, 2, 99);
    }

    private static void twoMasked() {
        Due.term(17, "of CHANGE from or to a MASKED one (both, too) half counts, cut");
        int[][] due = {{0, 0}, {1, 0}, {2, 1}, {3, 1}, {7, 3}, {98, 49}, {99, 49}};
        int[] others = {0, 1, 2, 5};
        for (int[] each : due) {
            for (int kind : others) {
                counts(4, kind, each[0], each[1]);
                counts(kind, 4, each[0], each[1]);
            }
        }
    }

    private static void twoMaskedBoth() {
        Due.term(17, "(both, too) half counts, cut");
        counts(4, 4, 8, 4);
        counts(4, 4, 9, 4);
        counts(4, 4, 1, 0);
        counts(4, 4, 99, 49);
        // held first, then halved
        counts(4, 0, 400, 49);
        // one under MUTE, but not MASKED
        counts(2, 2, 8, 8);
    }

    private static void twoOff() {
        Due.term(17, "An OFF one and one that isn't SPOKEN, nor under it, never MEET (nor are they TOO NEAR).");
        int[] due = {0, 2, 0, 2, 0, 2};
        for (int kind = 0; kind < 6; kind++) {
            FivePlayers x = new FivePlayers();
            x.part(3, 0);
            x.part(kind, 0);
            x.entry(0, 5, 9, 0);
            x.entry(1, 0, 5, 0);
            two(x, 0, 1, due[kind], 5);
            Due.is("fewest()", x.fewest(), due[kind] == 0 ? 1 : 2);
        }
    }

    private static void twoOffNear() {
        Due.term(17, "from or to an OFF one nothing");
        for (int kind = 0; kind < 6; kind++) {
            counts(3, kind, 99, 0);
            counts(kind, 3, 99, 0);
        }
    }

    private static void twoFromThat() {
        Due.term(17, "CHANGE is from that to this");
        FivePlayers x = new FivePlayers();
        x.part(0, 1);
        x.part(0, 6);
        x.entry(0, 9, 9, 0);
        x.entry(1, 13, 13, 0);
        Due.is("text(1)", Due.text(x, 1, "w"), 1);
        // three LINES between, one is wanted from 0 to 1, six back
        two(x, 0, 1, 0, 0);
        x.shift(0, 8);
        two(x, 0, 1, 3, 17);
        Due.is("text(1)", Due.text(x, 1, "v"), 1);
        two(x, 0, 1, 0, 0);
        x.shift(0, -8);
        two(x, 0, 1, 3, 13);
    }

    private static void twoSides() {
        Due.term(17, "s 1 if the side to which it goes is that from which it comes, else 0");
        for (int sides = 0; sides < 4; sides++) {
            for (int other = 0; other < 4; other++) {
                FivePlayers x = Plays.of(2, 0);
                x.entry(0, 0, 9, sides);
                x.entry(1, 15, 19, other);
                boolean same = sides % 2 == other / 2;
                Due.text(x, 1, "s*9");
                two(x, 0, 1, same ? 3 : 0, 15);
                Due.text(x, 1, "9-s*9");
                two(x, 0, 1, same ? 0 : 3, 15);
                // five LINES between: s is 0 or 1 and nothing else
                Due.text(x, 1, "5+s");
                two(x, 0, 1, same ? 3 : 0, 15);
                Due.text(x, 1, "6-s");
                two(x, 0, 1, same ? 0 : 3, 15);
                Due.text(x, 1, "4+s");
                two(x, 0, 1, 0, 0);
                Due.text(x, 1, "5-s");
                two(x, 0, 1, 0, 0);
                Due.text(x, 1, "7-s");
                two(x, 0, 1, 3, 15);
            }
        }
    }

    private static void twoBeyond() {
        Due.promise(17, "BEYOND (one and itself, too)");
        FivePlayers x = Plays.together(3, 0);
        Due.outside("two, a", 0, 2, Due.BEYOND, part -> x.two(part, 1, 0));
        Due.outside("two, b", 0, 2, Due.BEYOND, part -> x.two(1, part, 0));
        Due.outside("two, what", 0, 1, Due.BEYOND, what -> x.two(0, 1, what));
        for (int part = 0; part < 3; part++) {
            Due.is("one and itself", x.two(part, part, 0), Due.BEYOND);
            Due.is("one and itself", x.two(part, part, 1), Due.BEYOND);
        }
        two(x, 2, 0, 2, 0);
    }

    private static void twoNone() {
        Due.promise(17, "NONE: they aren't BARRED (what 1)");
        FivePlayers x = Plays.of(2, 0);
        Due.is("what 0", x.two(0, 1, 0), 0);
        Due.is("what 1", x.two(0, 1, 1), Due.NONE);
        Due.is("what 2, not BARRED", x.two(0, 1, 2), Due.BEYOND);
        Due.is("one and itself", x.two(0, 0, 1), Due.BEYOND);
        Due.is("told(2)", x.told(2), 1);
    }

    // ---- promise 18

    private static void castNobody() {
        Due.term(18, "THE CAST tells for each PART a PLAYER, or nobody (at first)");
        FivePlayers x = Plays.of(10, 6);
        for (int part = 0; part < 10; part++) {
            Due.is("cast(" + part + ", -1)", x.cast(part, -1), -1);
        }
        x.cast(9, 5);
        Due.is("count(8)", x.count(8), 1);
    }

    private static void castWas() {
        Due.promise(18, "THE CAST tells a PLAYER (-1: nobody) for a PART: who it was (-1)");
        FivePlayers x = Plays.of(10, 6);
        for (int part = 0; part < 10; part++) {
            Due.is("cast, it was nobody", x.cast(part, part % 6), -1);
        }
        for (int part = 0; part < 10; part++) {
            Due.is("cast, it was " + part % 6, x.cast(part, -1), part % 6);
            Due.is("cast, it was nobody again", x.cast(part, 5), -1);
        }
        Due.is("the same again", x.cast(0, 5), 5);
        // whether they can isn't asked
        FivePlayers y = new FivePlayers();
        y.part(0, 9000);
        y.player(0, 0);
        Due.is("one who can't", y.cast(0, 0), -1);
    }

    private static void castBeyond() {
        Due.promise(18, "BEYOND");
        FivePlayers x = Plays.of(3, 2);
        x.cast(0, 1);
        Due.outside("cast, part", 0, 2, Due.BEYOND, part -> x.cast(part, 0));
        Due.outside("cast, player", -1, 1, Due.BEYOND, player -> x.cast(0, player));
        Due.is("cast(0, -1), as it was", x.cast(0, -1), 1);
        Due.is("cast(2, 1)", x.cast(2, 1), -1);
    }

    // ---- promise 19

    private static void sheet(FivePlayers x, int sheet, int bits, int... numbers) {
        x.sheet(sheet, bits, numbers.length);
        for (int i = 0; i < numbers.length; i++) {
            x.put(sheet, i, numbers[i]);
        }
    }

    private static void isCast(FivePlayers x, int... due) {
        for (int part = 0; part < due.length; part++) {
            Due.is("who was told for PART " + part, x.cast(part, -1), due[part]);
        }
    }

    private static void blockNumbers() {
        Due.promise(19, "THE CAST tells for PARTS 0, 1, .. what the numbers of a SHEET say");
        FivePlayers x = Plays.of(10, 6);
        sheet(x, 3, 32, 5, 4, 3, 2, 1, 0, -1, 0, 5, -1);
        Due.is("block(3)", x.block(3), 10);
        Due.is("count(8)", x.count(8), 8);
        isCast(x, 5, 4, 3, 2, 1, 0, -1, 0, 5, -1);
        sheet(x, 0, 8, 1);
        Due.is("block(0)", x.block(0), 1);
        isCast(x, 1, -1);
    }

    private static void blockFewer() {
        Due.promise(19, "(as many as there are PARTS and numbers): how many");
        FivePlayers x = Plays.of(3, 2);
        x.cast(1, 1);
        x.cast(2, 1);
        sheet(x, 0, 16);
        Due.is("block of no numbers", x.block(0), 0);
        sheet(x, 0, 16, 0);
        Due.is("block of one number", x.block(0), 1);
        isCast(x, 0, 1, 1);
        sheet(x, 0, 16, 1, 0, 1, 0);
        Due.is("block of four numbers", x.block(0), 3);
        isCast(x, 1, 0, 1);
        x.sheet(0, 16, 24);
        Due.is("block of 24 numbers", x.block(0), 3);
        FivePlayers y = new FivePlayers();
        sheet(y, 0, 8, 7, 7);
        Due.is("block, no PARTS", y.block(0), 0);
    }

    private static void blockBits() {
        Due.promise(19, "what the numbers of a SHEET say");
        FivePlayers x = Plays.of(3, 3);
        sheet(x, 0, 8, 255, 256, 258);
        Due.is("block, 8 bits", x.block(0), 3);
        isCast(x, -1, 0, 2);
        sheet(x, 0, 16, 65535, 65536, 65538);
        Due.is("block, 16 bits", x.block(0), 3);
        isCast(x, -1, 0, 2);
        sheet(x, 0, 16, 255, 0, 0);
        Due.is("block, 255 in 16 bits", x.block(0), Due.KIND);
        sheet(x, 0, 32, 65535, 0, 0);
        Due.is("block, 65535 in 32 bits", x.block(0), Due.KIND);
    }

    private static void blockBeyond() {
        Due.promise(19, "BEYOND");
        FivePlayers x = Plays.of(1, 1);
        for (int sheet = 0; sheet < 4; sheet++) {
            sheet(x, sheet, 8, 0);
        }
        Due.outside("block", 0, 3, Due.BEYOND, x::block);
        Due.is("count(8)", x.count(8), 0);
        Due.is("block(0)", x.block(0), 1);
        Due.is("block(3)", x.block(3), 1);
    }

    private static void blockNone() {
        Due.promise(19, "NONE: it is missing");
        FivePlayers x = Plays.of(1, 1);
        for (int sheet = 0; sheet < 4; sheet++) {
            Due.is("block(" + sheet + "), as at first", x.block(sheet), Due.NONE);
        }
        sheet(x, 2, 8, 0);
        x.sheet(2, 0, 1);
        Due.is("block(2), missing again", x.block(2), Due.NONE);
        Due.is("count(8)", x.count(8), 0);
    }

    private static void blockKind() {
        Due.promise(19, "KIND: one of these numbers isn't -1, nor a PLAYER");
        FivePlayers x = Plays.of(3, 2);
        int[] wrong = {-2, 2, Due.MIN, Due.MAX};
        for (int v : wrong) {
            for (int i = 0; i < 3; i++) {
                sheet(x, 1, 32, 1, 1, 1);
                x.put(1, i, v);
                Due.is("number " + i + " is " + v, x.block(1), Due.KIND);
                Due.is("count(8), none is told", x.count(8), 0);
            }
        }
        sheet(x, 1, 32, 1, 0, -1, 2, -2, 99);
        Due.is("those behind the PARTS don't matter", x.block(1), 3);
        FivePlayers y = Plays.of(2, 0);
        sheet(y, 1, 8, -1, -1);
        Due.is("nobody, no PLAYERS", y.block(1), 2);
        sheet(y, 1, 8, -1, 0);
        Due.is("PLAYER 0, no PLAYERS", y.block(1), Due.KIND);
    }

    private static void blockOrder() {
        Due.promise(19, "BEYOND. NONE: it is missing. KIND");
        FivePlayers x = Plays.of(1, 0);
        Due.is("no such SHEET", x.block(4), Due.BEYOND);
        Due.is("missing", x.block(0), Due.NONE);
        sheet(x, 0, 8, 0);
        Due.is("no such PLAYER", x.block(0), Due.KIND);
        Due.is("told(1)", x.told(1), 1);
        Due.is("told(2)", x.told(2), 1);
        Due.is("told(5)", x.told(5), 1);
    }

    // ---- promise 20

    private static void bars(FivePlayers x, int... due) {
        for (int what = 0; what < 4; what++) {
            Due.is("bars(" + what + ")", x.bars(what), what < due.length ? due[what] : Due.NONE);
        }
    }

    private static void barsNothing() {
        Due.promise(20, "(0: nothing does)");
        bars(new FivePlayers(), 0);
        bars(Plays.together(10, 6), 0);
        FivePlayers x = Plays.together(2, 2);
        x.cast(0, 0);
        bars(x, 0);
        x.cast(1, 1);
        bars(x, 0);
    }

    private static void barsCannot() {
        Due.term(20, "1 the PLAYER can't");
        FivePlayers x = new FivePlayers();
        for (int part = 0; part < 10; part++) {
            x.part(0, part == 9 ? 5000 : 0);
        }
        x.player(4, 0);
        x.player(5, 0);
        x.cast(9, 1);
        bars(x, 0);
        x.cast(9, 0);
        bars(x, 1, 9);
        Due.text(x, 0, "0");
        bars(x, 1, 9);
        x.cast(0, 1);
        bars(x, 1, 0);
    }

    private static void barsTwo() {
        Due.term(20, "2 they MEET (on the first LINE on which both are on), 3 they are TOO NEAR");
        FivePlayers x = Plays.of(10, 2);
        x.entry(0, 0, 5, 0);
        x.entry(9, 6, 9, 0);
        x.cast(0, 1);
        x.cast(9, 0);
        bars(x, 0);
        x.cast(9, 1);
        bars(x, 3, 0, 9, 6);
        x.shift(1, -1);
        bars(x, 2, 0, 9, 5);
        x.shift(1, 3);
        bars(x, 0);
    }

    private static void barsFirst() {
        Due.term(20, "by PARTS p that somebody plays: 1 the PLAYER can't; then by PARTS q above p that the same one plays");
        FivePlayers x = new FivePlayers();
        x.part(0, 0);
        x.part(0, 9000);
        x.part(0, 0);
        x.part(0, 0);
        x.player(5, 0);
        x.player(5, 0);
        x.entry(0, 10, 19, 0);
        x.entry(1, 19, 29, 0);
        x.entry(2, 15, 15, 0);
        x.entry(3, 21, 21, 0);
        x.cast(1, 0);
        bars(x, 1, 1);
        // 0 meets 1: p 0 comes ahead of p 1, whose PLAYER can't
        x.cast(0, 0);
        bars(x, 2, 0, 1, 19);
        // q 1 comes ahead of q 2, though 2 meets on an earlier LINE
        x.cast(2, 0);
        bars(x, 2, 0, 1, 19);
        x.cast(1, -1);
        bars(x, 2, 0, 2, 15);
        // TOO NEAR with q 1 comes ahead of MEET with q 2
        x.shift(1, 1);
        x.cast(1, 0);
        bars(x, 3, 0, 1, 20);
        // of p 0 first whether its PLAYER can
        Due.text(x, 0, "0");
        bars(x, 1, 0);
        x.cast(0, 1);
        x.cast(1, -1);
        x.cast(2, -1);
        bars(x, 1, 0);
        Due.text(x, 0, "1");
        x.cast(3, 1);
        bars(x, 3, 0, 3, 21);
    }

    private static void barsLater() {
        Due.term(20, "then by PARTS q above p that the same one plays");
        FivePlayers x = Plays.apart(6, 2);
        for (int part = 0; part < 6; part++) {
            x.cast(part, part % 2);
        }
        bars(x, 0);
        // 3 and 5 meet: no p ahead of 3 is barred, nor 3 with a q of another PLAYER
        x.shift(5, -20);
        bars(x, 2, 3, 5, 30);
        // 1 and 5 are TOO NEAR: q 3 isn't barred with p 1
        x.shift(5, -19);
        bars(x, 3, 1, 5, 11);
        x.cast(1, 0);
        bars(x, 0);
        x.cast(5, 0);
        bars(x, 3, 1, 5, 11);
    }

    private static void barsNobody() {
        Due.term(20, "by PARTS p that somebody plays");
        FivePlayers x = Plays.together(3, 1);
        x.cast(1, 0);
        bars(x, 0);
        x.cast(0, 0);
        bars(x, 2, 0, 1, 0);
        x.cast(0, -1);
        x.cast(2, 0);
        bars(x, 2, 1, 2, 0);
        x.cast(1, -1);
        Due.text(x, 0, "0");
        bars(x, 1, 2);
        x.cast(2, -1);
        bars(x, 0);
    }

    private static void barsBeyond() {
        Due.promise(20, "BEYOND");
        FivePlayers x = Plays.together(2, 1);
        Due.outside("bars, nothing bars", 0, 3, Due.BEYOND, x::bars);
        x.cast(0, 0);
        x.cast(1, 0);
        Due.outside("bars, two meet", 0, 3, Due.BEYOND, x::bars);
        Due.is("bars(3)", x.bars(3), 0);
    }

    private static void barsNone() {
        Due.promise(20, "NONE: there is none such");
        FivePlayers x = Plays.together(2, 1);
        for (int what = 1; what < 4; what++) {
            Due.is("nothing bars, bars(" + what + ")", x.bars(what), Due.NONE);
        }
        Due.text(x, 0, "0");
        x.cast(1, 0);
        Due.is("bars(1)", x.bars(1), 1);
        Due.is("can't, bars(2)", x.bars(2), Due.NONE);
        Due.is("can't, bars(3)", x.bars(3), Due.NONE);
        Due.is("told(2)", x.told(2), 5);
    }

    // ---- promise 21

    private static void busyOnce() {
        Due.promise(21, "How many LINES a PLAYER is on by THE CAST, each told once");
        FivePlayers x = Plays.of(4, 2);
        x.entry(0, 0, 9, 0);
        x.entry(1, 5, 14, 0);
        x.entry(2, 14, 14, 0);
        x.entry(0, 90, 99, 0);
        Due.is("nothing cast", x.busy(0), 0);
        x.cast(3, 0);
        Due.is("a PART that is never on", x.busy(0), 0);
        x.cast(0, 0);
        Due.is("two ENTRIES", x.busy(0), 20);
        x.cast(1, 0);
        Due.is("five LINES in common", x.busy(0), 25);
        x.cast(2, 0);
        Due.is("all in common", x.busy(0), 25);
        x.cast(1, 1);
        Due.is("one less", x.busy(0), 21);
        Due.is("of another one", x.busy(1), 10);
        x.cast(0, -1);
        Due.is("nobody's", x.busy(0), 1);
    }

    private static void busyEnds() {
        Due.promise(21, "How many LINES a PLAYER is on by THE CAST");
        FivePlayers x = Plays.of(10, 6);
        x.lines(200);
        x.entry(9, 199, 199, 0);
        x.entry(8, 0, 0, 0);
        x.cast(9, 5);
        Due.is("the last LINE", x.busy(5), 1);
        x.cast(8, 5);
        Due.is("the first LINE too", x.busy(5), 2);
        x.entry(0, 0, 199, 0);
        x.cast(0, 5);
        Due.is("all LINES", x.busy(5), 200);
        Due.is("of nobody", x.busy(0), 0);
    }

    private static void busyBeyond() {
        Due.promise(21, "BEYOND");
        FivePlayers x = Plays.together(2, 3);
        Due.outside("busy", 0, 2, Due.BEYOND, x::busy);
        Due.is("busy(2)", x.busy(2), 0);
    }
}
