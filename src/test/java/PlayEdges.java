/** Promises 1 to 9, sentence by sentence: a new object, lines, part, as, partIs, entry, entryIs, shift, on. */
final class PlayEdges {
    private PlayEdges() { }

    static void run() {
        newLines();
        newParts();
        newPlayers();
        newRest();
        newObjectsApart();
        linesHad();
        linesBeyond();
        linesState();
        linesOrder();
        linesBound();
        partNumber();
        partLooks();
        partBeyond();
        partFull();
        asKinds();
        asWeight();
        asBeyond();
        asOrder();
        partIsWhat();
        partIsWeight();
        partIsBeyond();
        entryNumber();
        entryBeyond();
        entryLines();
        entryState();
        entryFull();
        entryOrder();
        entryIsWhat();
        entryIsBeyond();
        shiftLine();
        shiftBeyond();
        shiftRound();
        shiftState();
        shiftOrder();
        onParts();
        onBeyond();
    }

    // ---- promise 1

    private static void newLines() {
        Due.promise(1, "100 LINES");
        FivePlayers x = new FivePlayers();
        Due.is("count(0)", x.count(0), 100);
        Due.is("on(99)", x.on(99), 0);
        Due.is("on(100)", x.on(100), Due.BEYOND);
        x.part(0, 0);
        Due.is("an ENTRY of all LINES", x.entry(0, 0, 99, 0), 0);
        Due.is("shift(0, 1)", x.shift(0, 1), Due.BEYOND);
        Due.is("lines(100)", x.lines(100), 100);
    }

    private static void newParts() {
        Due.promise(1, "no PARTS");
        FivePlayers x = new FivePlayers();
        Due.is("count(1)", x.count(1), 0);
        Due.is("as(0, 0)", x.as(0, 0), Due.BEYOND);
        Due.is("partIs(0, 0)", x.partIs(0, 0), Due.BEYOND);
        Due.is("entry(0, 0, 0, 0)", x.entry(0, 0, 0, 0), Due.BEYOND);
        Due.is("change(0, 1, 0)", x.change(0, 1, 0), Due.BEYOND);
        Due.is("two(0, 1, 0)", x.two(0, 1, 0), Due.BEYOND);
        Due.is("cast(0, -1)", x.cast(0, -1), Due.BEYOND);
        Due.is("group(0)", x.group(0), Due.BEYOND);
        Due.is("without(0)", x.without(0), Due.BEYOND);
        Due.is("best(0, 0, 0)", x.best(0, 0, 0), Due.BEYOND);
        Due.is("voice(0, 0, 0)", x.voice(0, 0, 0), Due.BEYOND);
        Due.is("fewest()", x.fewest(), 0);
        Due.is("crowd()", x.crowd(), 0);
        Due.is("part(0, 0)", x.part(0, 0), 0);
    }

    private static void newPlayers() {
        Due.promise(1, "PLAYERS");
        FivePlayers x = new FivePlayers();
        x.part(0, 0);
        Due.is("count(3)", x.count(3), 0);
        Due.is("know(0, 0, true)", x.know(0, 0, true), Due.BEYOND);
        Due.is("can(0, 0)", x.can(0, 0), Due.BEYOND);
        Due.is("wish(0, 0)", x.wish(0, 0), Due.BEYOND);
        Due.is("cast(0, 0)", x.cast(0, 0), Due.BEYOND);
        Due.is("busy(0)", x.busy(0), Due.BEYOND);
        Due.is("castings(1)", x.castings(1), Due.BEYOND);
        Due.is("castings(0)", x.castings(0), 0);
        Due.is("never(0, 0, 0)", x.never(0, 0, 0), Due.BEYOND);
        Due.is("player(0, 0)", x.player(0, 0), 0);
    }

    private static void newRest() {
        Due.promise(1, "A new object");
        FivePlayers x = new FivePlayers();
        for (int what = 1; what <= 8; what++) {
            Due.is("count(" + what + ")", x.count(what), 0);
        }
        for (int k = 1; k <= 5; k++) {
            Due.is("told(" + k + ")", x.told(k), 0);
        }
        Due.is("entryIs(0, 0)", x.entryIs(0, 0), Due.BEYOND);
        Due.is("shift(0, 0)", x.shift(0, 0), Due.BEYOND);
        Due.is("helps(0, 0)", x.helps(0, 0), Due.BEYOND);
        Due.is("bars(0)", x.bars(0), 0);
        Due.is("trace(0)", x.trace(0), Due.NONE);
        Due.is("restore()", x.restore(), Due.NONE);
        for (int sheet = 0; sheet < 4; sheet++) {
            Due.is("put(" + sheet + ", 0, 0)", x.put(sheet, 0, 0), Due.NONE);
        }
        for (int use = 0; use < 3; use++) {
            Due.is("text(" + use + ")", x.text(use), -10);
        }
        for (int way = 0; way < 4; way++) {
            Due.is("check(" + way + ")", x.check(way), 0);
        }
        Due.is("image()", x.image(), 1);
    }

    private static void newObjectsApart() {
        Due.promise(1, "A new object");
        FivePlayers x = Plays.full();
        x.voice(0, 0, 0);
        x.image();
        Plays.take(x, 0, "");
        FivePlayers y = new FivePlayers();
        Due.is("lines of another one", y.count(0), 100);
        for (int what = 1; what <= 8; what++) {
            Due.is("count(" + what + ") of another one", y.count(what), 0);
        }
        Due.is("restore() of another one", y.restore(), Due.NONE);
        Due.is("put(0, 0, 0) of another one", y.put(0, 0, 0), Due.NONE);
        y.part(0, 0);
        Due.is("count(1) of the first one", x.count(1), 10);
        Due.is("told(2) of the first one", x.told(2), 0);
    }

    // ---- promise 2

    private static void linesHad() {
        Due.promise(2, "how many it had");
        FivePlayers x = new FivePlayers();
        Due.is("lines(10)", x.lines(10), 100);
        Due.is("lines(200)", x.lines(200), 10);
        Due.is("lines(200) again", x.lines(200), 200);
        Due.is("lines(11)", x.lines(11), 200);
        Due.is("lines(199)", x.lines(199), 11);
        Due.is("count(0)", x.count(0), 199);
    }

    private static void linesBeyond() {
        Due.promise(2, "BEYOND");
        FivePlayers x = new FivePlayers();
        Due.outside("lines", 10, 200, Due.BEYOND, x::lines);
        Due.is("lines(0)", x.lines(0), Due.BEYOND);
        Due.is("lines(-100)", x.lines(-100), Due.BEYOND);
        Due.is("count(0)", x.count(0), 100);
    }

    private static void linesState() {
        Due.promise(2, "STATE: an ENTRY would end behind them");
        FivePlayers x = Plays.of(2, 0);
        x.entry(0, 0, 49, 0);
        x.entry(1, 5, 60, 0);
        x.entry(0, 55, 55, 0);
        Due.is("lines(60), it ends with 60", x.lines(60), Due.STATE);
        Due.is("lines(10), it is all behind", x.lines(10), Due.STATE);
        Due.is("count(0)", x.count(0), 100);
        Due.is("lines(61)", x.lines(61), 100);
        Due.is("lines(60)", x.lines(60), Due.STATE);
        Due.is("shift(1, -1)", x.shift(1, -1), 4);
        Due.is("lines(60), it ends with 59", x.lines(60), 61);
        FivePlayers y = Plays.full();
        Due.is("40 ENTRIES, the last ends with 199", y.lines(199), Due.STATE);
        Due.is("40 ENTRIES", y.lines(200), 200);
        // an ENTRY that is no more doesn't matter
        FivePlayers z = Plays.of(1, 0);
        z.image();
        z.entry(0, 99, 99, 0);
        z.restore();
        Due.is("no ENTRY any more", z.lines(10), 100);
    }

    private static void linesOrder() {
        Due.promise(2, "BEYOND. STATE");
        FivePlayers x = Plays.of(1, 0);
        x.entry(0, 99, 99, 0);
        Due.is("lines(9)", x.lines(9), Due.BEYOND);
        Due.is("lines(10)", x.lines(10), Due.STATE);
        Due.is("lines(99)", x.lines(99), Due.STATE);
        Due.is("lines(100)", x.lines(100), 100);
    }

    private static void linesBound() {
        Due.promise(2, "THE PLAY has n LINES");
        FivePlayers x = Plays.of(1, 1);
        x.lines(10);
        Due.is("on(9)", x.on(9), 0);
        Due.is("on(10)", x.on(10), Due.BEYOND);
        Due.is("entry to 10", x.entry(0, 9, 10, 0), Due.BEYOND);
        Due.is("entry to 9", x.entry(0, 9, 9, 0), 0);
        Due.is("shift(0, 1)", x.shift(0, 1), Due.BEYOND);
        x.lines(200);
        Due.is("shift(0, 190)", x.shift(0, 190), 199);
        Due.is("shift(0, 1)", x.shift(0, 1), Due.BEYOND);
        Due.is("on(199)", x.on(199), 1);
        Due.is("on(200)", x.on(200), Due.BEYOND);
        Due.is("crowd()", x.crowd(), 1);
        x.cast(0, 0);
        Due.is("busy(0)", x.busy(0), 1);
    }

    // ---- promise 3

    private static void partNumber() {
        Due.promise(3, "A PART: its number");
        FivePlayers x = new FivePlayers();
        for (int part = 0; part < 10; part++) {
            Due.is("part, the next", x.part(part % 6, part), part);
            Due.is("count(1)", x.count(1), part + 1);
            Due.is("its WIG", x.partIs(part, 3), part);
        }
    }

    private static void partLooks() {
        Due.promise(3, "looks: 1000 times NEED, 10 times AGE, and WIG");
        int[][] due = {{0, 0, 0, 0}, {9999, 9, 99, 9}, {9, 0, 0, 9}, {10, 0, 1, 0}, {999, 0, 99, 9}, {990, 0, 99, 0},
            {1000, 1, 0, 0}, {9000, 9, 0, 0}, {8765, 8, 76, 5}};
        FivePlayers x = new FivePlayers();
        for (int part = 0; part < due.length; part++) {
            Due.is("part(0, " + due[part][0] + ")", x.part(0, due[part][0]), part);
            for (int what = 1; what <= 3; what++) {
                Due.is("partIs(.., " + what + ") of " + due[part][0], x.partIs(part, what), due[part][what]);
            }
        }
    }

    private static void partBeyond() {
        Due.promise(3, "BEYOND");
        FivePlayers x = new FivePlayers();
        Due.outside("part, kind", 0, 5, Due.BEYOND, kind -> x.part(kind, 0));
        Due.outside("part, looks", 0, 9999, Due.BEYOND, looks -> x.part(0, looks));
        Due.is("count(1)", x.count(1), 0);
        Due.is("part(0, 0)", x.part(0, 0), 0);
        Due.is("part(5, 9999)", x.part(5, 9999), 1);
    }

    private static void partFull() {
        Due.promise(3, "BEYOND. FULL");
        FivePlayers x = Plays.of(9, 0);
        Due.is("the tenth", x.part(0, 0), 9);
        Due.is("the eleventh", x.part(0, 0), Due.FULL);
        Due.is("full, no such kind", x.part(6, 0), Due.BEYOND);
        Due.is("full, no such looks", x.part(0, 10000), Due.BEYOND);
        Due.is("full, no such looks", x.part(0, -1), Due.BEYOND);
        Due.is("count(1)", x.count(1), 10);
    }

    // ---- promise 4

    private static void asKinds() {
        Due.promise(4, "KIND: it isn't of that kind, nor of one under it");
        // by kinds: those that a PART of that kind is of
        String[] of = {"0", "01", "02", "013", "024", "015"};
        FivePlayers x = Plays.kinds();
        for (int part = 0; part < 6; part++) {
            for (int kind = 0; kind < 6; kind++) {
                boolean is = of[part].indexOf('0' + kind) >= 0;
                Due.is("as(" + part + ", " + kind + ")", x.as(part, kind), is ? 0 : Due.KIND);
            }
        }
    }

    private static void asWeight() {
        Due.promise(4, "A PART as one of a kind: its WEIGHT");
        FivePlayers x = new FivePlayers();
        x.lines(200);
        x.part(4, 0);
        Due.is("never on", x.as(0, 4), 0);
        x.entry(0, 7, 7, 0);
        Due.is("on at one LINE", x.as(0, 2), 1);
        x.entry(0, 8, 199, 0);
        Due.is("on at 193", x.as(0, 0), 193);
        x.entry(0, 0, 6, 0);
        Due.is("on at all 200", x.as(0, 4), 200);
    }

    private static void asBeyond() {
        Due.promise(4, "BEYOND");
        FivePlayers x = Plays.of(3, 0);
        Due.outside("as, part", 0, 2, Due.BEYOND, part -> x.as(part, 0));
        Due.outside("as, kind", 0, 5, Due.BEYOND, kind -> x.as(0, kind));
        Due.is("as(2, 0)", x.as(2, 0), 0);
    }

    private static void asOrder() {
        Due.promise(4, "BEYOND. KIND");
        FivePlayers x = Plays.of(1, 0);
        Due.is("no such part, not of its kind", x.as(1, 5), Due.BEYOND);
        Due.is("no such kind", x.as(0, 6), Due.BEYOND);
        Due.is("not of that kind", x.as(0, 5), Due.KIND);
    }

    // ---- promise 5

    private static void partIsWhat() {
        Due.promise(5, "0 KIND, 1 NEED, 2 AGE, 3 WIG, 4 WEIGHT, 5 how many ENTRIES");
        FivePlayers x = new FivePlayers();
        x.part(5, 9999);
        x.part(3, 1234);
        x.entry(1, 3, 5, 0);
        x.entry(1, 7, 7, 0);
        int[][] due = {{5, 9, 99, 9, 0, 0}, {3, 1, 23, 4, 4, 2}};
        for (int part = 0; part < 2; part++) {
            for (int what = 0; what < 6; what++) {
                Due.is("partIs(" + part + ", " + what + ")", x.partIs(part, what), due[part][what]);
            }
        }
    }

    private static void partIsWeight() {
        Due.term(5, "WEIGHT of a PART: how many LINES it is on");
        FivePlayers x = Plays.of(2, 0);
        x.entry(0, 0, 0, 0);
        Due.is("from a LINE to itself", x.partIs(0, 4), 1);
        x.entry(0, 98, 99, 0);
        Due.is("both LINES too", x.partIs(0, 4), 3);
        x.entry(1, 0, 99, 0);
        Due.is("of another one", x.partIs(0, 4), 3);
        Due.is("of all LINES", x.partIs(1, 4), 100);
        x.shift(1, -90);
        Due.is("behind shift()", x.partIs(0, 4), 3);
        for (int i = 0; i < 37; i++) {
            x.entry(0, 20 + 2 * i, 20 + 2 * i, 0);
        }
        Due.is("of 39 ENTRIES", x.partIs(0, 5), 39);
        Due.is("of 40 LINES", x.partIs(0, 4), 40);
    }

    private static void partIsBeyond() {
        Due.promise(5, "BEYOND");
        FivePlayers x = Plays.of(3, 0);
        Due.outside("partIs, part", 0, 2, Due.BEYOND, part -> x.partIs(part, 0));
        Due.outside("partIs, what", 0, 5, Due.BEYOND, what -> x.partIs(0, what));
        Due.is("partIs(2, 5)", x.partIs(2, 5), 0);
    }

    // ---- promise 6

    private static void entryNumber() {
        Due.promise(6, "An ENTRY: its number");
        FivePlayers x = Plays.of(2, 0);
        for (int i = 0; i < 40; i++) {
            Due.is("the next", x.entry(i % 2, i, i, i % 4), i);
            Due.is("count(2)", x.count(2), i + 1);
        }
        for (int i = 0; i < 40; i++) {
            Due.is("its PART", x.entryIs(i, 0), i % 2);
            Due.is("its LINE", x.entryIs(i, 1), i);
            Due.is("its sides", x.entryIs(i, 3), i % 4);
        }
    }

    private static void entryBeyond() {
        Due.promise(6, "BEYOND: PART, LINES (to isn't ahead of from), sides");
        FivePlayers x = Plays.of(3, 0);
        Due.outside("entry, part", 0, 2, Due.BEYOND, part -> x.entry(part, 0, 0, 0));
        Due.outside("entry, from", 0, 99, Due.BEYOND, from -> x.entry(0, from, 99, 0));
        Due.outside("entry, to", 0, 99, Due.BEYOND, to -> x.entry(0, 0, to, 0));
        Due.outside("entry, from and to", 0, 99, Due.BEYOND, line -> x.entry(0, line, line, 0));
        Due.outside("entry, sides", 0, 3, Due.BEYOND, sides -> x.entry(0, 0, 0, sides));
        Due.is("to ahead of from by one", x.entry(0, 50, 49, 0), Due.BEYOND);
        Due.is("to ahead of from by all", x.entry(0, 99, 0, 0), Due.BEYOND);
        Due.is("the least and the greatest", x.entry(0, Due.MIN, Due.MAX, 0), Due.BEYOND);
        Due.is("the greatest and the least", x.entry(0, Due.MAX, Due.MIN, 0), Due.BEYOND);
        Due.is("count(2)", x.count(2), 0);
    }

    private static void entryLines() {
        Due.term(6, "a PART is on from a LINE to another one (both too)");
        FivePlayers x = Plays.of(4, 0);
        Due.is("the first LINE alone", x.entry(0, 0, 0, 0), 0);
        Due.is("the last LINE alone", x.entry(0, 99, 99, 3), 1);
        Due.is("all LINES", x.entry(1, 0, 99, 1), 2);
        Due.is("two LINES", x.entry(2, 50, 51, 2), 3);
        int[][] due = {{0, 2}, {1, 1}, {49, 1}, {50, 2}, {51, 2}, {52, 1}, {98, 1}, {99, 2}};
        for (int[] line : due) {
            Due.is("on(" + line[0] + ")", x.on(line[0]), line[1]);
        }
    }

    private static void entryState() {
        Due.promise(6, "STATE: the PART is on at one of these LINES");
        FivePlayers x = Plays.of(2, 0);
        x.entry(0, 10, 19, 0);
        Due.is("the same LINES", x.entry(0, 10, 19, 0), Due.STATE);
        Due.is("up to its first LINE", x.entry(0, 0, 10, 0), Due.STATE);
        Due.is("from its last LINE on", x.entry(0, 19, 99, 0), Due.STATE);
        Due.is("its first LINE alone", x.entry(0, 10, 10, 0), Due.STATE);
        Due.is("its last LINE alone", x.entry(0, 19, 19, 0), Due.STATE);
        Due.is("a LINE within it", x.entry(0, 15, 15, 0), Due.STATE);
        Due.is("all LINES", x.entry(0, 0, 99, 0), Due.STATE);
        Due.is("count(2)", x.count(2), 1);
        Due.is("of another PART", x.entry(1, 10, 19, 0), 1);
        Due.is("up to the LINE ahead", x.entry(0, 9, 9, 0), 2);
        Due.is("from the LINE behind on", x.entry(0, 20, 20, 0), 3);
        Due.is("on the second one's LINE", x.entry(0, 0, 9, 0), Due.STATE);
        Due.is("on the third one's LINE", x.entry(0, 20, 99, 0), Due.STATE);
        x.shift(0, 50);
        Due.is("where it was", x.entry(0, 10, 19, 0), 4);
        Due.is("where it is now", x.entry(0, 69, 69, 0), Due.STATE);
    }

    private static void entryFull() {
        Due.promise(6, "FULL");
        FivePlayers x = Plays.of(2, 0);
        for (int i = 0; i < 39; i++) {
            x.entry(0, i, i, 0);
        }
        Due.is("the 40th", x.entry(1, 0, 0, 0), 39);
        Due.is("the 41st", x.entry(1, 1, 1, 0), Due.FULL);
        Due.is("count(2)", x.count(2), 40);
        Due.is("on(1)", x.on(1), 1);
    }

    private static void entryOrder() {
        Due.promise(6, "BEYOND: PART, LINES (to isn't ahead of from), sides. STATE: the PART is on at one of these LINES. FULL");
        FivePlayers x = Plays.of(1, 0);
        x.entry(0, 0, 0, 0);
        Due.is("on there, sides 4", x.entry(0, 0, 0, 4), Due.BEYOND);
        Due.is("on there, to beyond", x.entry(0, 0, 100, 0), Due.BEYOND);
        for (int i = 1; i < 40; i++) {
            x.entry(0, i, i, 0);
        }
        Due.is("full, no such PART", x.entry(1, 50, 50, 0), Due.BEYOND);
        Due.is("full, to ahead of from", x.entry(0, 51, 50, 0), Due.BEYOND);
        Due.is("full, sides -1", x.entry(0, 50, 50, -1), Due.BEYOND);
        Due.is("full, on there", x.entry(0, 39, 40, 0), Due.STATE);
        Due.is("full", x.entry(0, 40, 40, 0), Due.FULL);
    }

    // ---- promise 7

    private static void entryIsWhat() {
        Due.promise(7, "0 PART, 1, 2 its LINES from and to, 3 sides");
        FivePlayers x = Plays.of(10, 0);
        x.entry(9, 0, 99, 3);
        x.entry(0, 98, 99, 0);
        x.entry(1, 5, 5, 1);
        x.entry(1, 0, 4, 2);
        int[][] due = {{9, 0, 99, 3}, {0, 98, 99, 0}, {1, 5, 5, 1}, {1, 0, 4, 2}};
        for (int entry = 0; entry < due.length; entry++) {
            for (int what = 0; what < 4; what++) {
                Due.is("entryIs(" + entry + ", " + what + ")", x.entryIs(entry, what), due[entry][what]);
            }
        }
    }

    private static void entryIsBeyond() {
        Due.promise(7, "BEYOND");
        FivePlayers x = Plays.apart(3, 0);
        Due.outside("entryIs, entry", 0, 2, Due.BEYOND, entry -> x.entryIs(entry, 0));
        Due.outside("entryIs, what", 0, 3, Due.BEYOND, what -> x.entryIs(0, what));
        Due.is("entryIs(2, 1)", x.entryIs(2, 1), 20);
    }

    // ---- promise 8

    private static void shiftLine() {
        Due.promise(8, "An ENTRY is by LINES later (earlier, if below 0): its LINE from");
        FivePlayers x = Plays.of(1, 0);
        x.entry(0, 10, 14, 2);
        Due.is("by 0", x.shift(0, 0), 10);
        Due.is("by 1", x.shift(0, 1), 11);
        Due.is("by -2", x.shift(0, -2), 9);
        Due.is("to the first LINE", x.shift(0, -9), 0);
        Due.is("to the last LINE", x.shift(0, 95), 95);
        Due.is("from", x.entryIs(0, 1), 95);
        Due.is("to", x.entryIs(0, 2), 99);
        Due.is("sides", x.entryIs(0, 3), 2);
        Due.is("WEIGHT", x.partIs(0, 4), 5);
    }

    private static void shiftBeyond() {
        Due.promise(8, "BEYOND: no such ENTRY, it would not be within THE PLAY");
        FivePlayers x = Plays.of(1, 0);
        x.entry(0, 10, 14, 0);
        x.entry(0, 50, 59, 0);
        Due.outside("shift, entry", 0, 1, Due.BEYOND, entry -> x.shift(entry, 0));
        Due.outside("shift(0, by)", -10, 85, Due.BEYOND, by -> x.shift(0, by));
        Due.outside("shift(1, by)", -50, 40, Due.BEYOND, by -> x.shift(1, by));
        Due.is("from, as it was", x.entryIs(0, 1), 10);
        Due.is("to, as it was", x.entryIs(1, 2), 59);
        Due.is("shift(0, -10)", x.shift(0, -10), 0);
        Due.is("shift(1, 40)", x.shift(1, 40), 90);
    }

    private static void shiftRound() {
        // by is any int: from and by, or to and by, must not go round
        Due.promise(8, "it would not be within THE PLAY");
        FivePlayers x = Plays.of(2, 0);
        x.entry(0, 0, 5, 0);
        x.entry(1, 99, 99, 0);
        Due.is("to goes round, from does not", x.shift(0, Due.MAX), Due.BEYOND);
        Due.is("to goes round by little", x.shift(0, Due.MAX - 4), Due.BEYOND);
        Due.is("to is the greatest int", x.shift(0, Due.MAX - 5), Due.BEYOND);
        Due.is("both go round", x.shift(1, Due.MAX), Due.BEYOND);
        Due.is("the least int", x.shift(0, Due.MIN), Due.BEYOND);
        Due.is("the least int, from 99", x.shift(1, Due.MIN), Due.BEYOND);
        Due.is("from, as it was", x.entryIs(0, 1), 0);
        Due.is("to, as it was", x.entryIs(0, 2), 5);
    }

    private static void shiftState() {
        Due.promise(8, "STATE: the PART is on there in another ENTRY");
        FivePlayers x = Plays.of(2, 0);
        x.entry(0, 10, 14, 0);
        x.entry(0, 20, 24, 0);
        x.entry(1, 0, 99, 0);
        Due.is("its last LINE on the other's first", x.shift(0, 6), Due.STATE);
        Due.is("its first LINE on the other's last", x.shift(0, 14), Due.STATE);
        Due.is("on all of the other's LINES", x.shift(0, 10), Due.STATE);
        Due.is("the later one's first on the last", x.shift(1, -6), Due.STATE);
        Due.is("from, as it was", x.entryIs(0, 1), 10);
        Due.is("right ahead of the other one", x.shift(0, 5), 15);
        Due.is("by one, on its own LINES", x.shift(0, -1), 14);
        Due.is("right behind the other one", x.shift(0, 11), 25);
        Due.is("where another PART is on", x.shift(0, 70), 95);
    }

    private static void shiftOrder() {
        Due.promise(8, "STATE");
        FivePlayers x = Plays.of(1, 0);
        x.entry(0, 10, 14, 0);
        x.entry(0, 97, 99, 0);
        Due.is("beyond, and the other one is there", x.shift(0, 86), Due.BEYOND);
        Due.is("the other one is there", x.shift(0, 85), Due.STATE);
        Due.is("no such ENTRY", x.shift(2, 85), Due.BEYOND);
    }

    // ---- promise 9

    private static void onParts() {
        Due.promise(9, "How many PARTS are on at a LINE");
        FivePlayers x = new FivePlayers();
        for (int part = 0; part < 10; part++) {
            x.part(part % 6, 0);
            x.entry(part, part, 50, 0);
        }
        x.entry(0, 51, 60, 0);
        for (int line = 0; line < 12; line++) {
            Due.is("on(" + line + ")", x.on(line), Math.min(line + 1, 10));
        }
        Due.is("on(50)", x.on(50), 10);
        Due.is("on(51)", x.on(51), 1);
        Due.is("on(61)", x.on(61), 0);
    }

    private static void onBeyond() {
        Due.promise(9, "BEYOND");
        FivePlayers x = Plays.of(1, 0);
        x.entry(0, 0, 9, 0);
        Due.outside("on, 100 LINES", 0, 99, Due.BEYOND, x::on);
        x.lines(10);
        Due.outside("on, 10 LINES", 0, 9, Due.BEYOND, x::on);
        x.lines(200);
        Due.outside("on, 200 LINES", 0, 199, Due.BEYOND, x::on);
        Due.is("on(0)", x.on(0), 1);
        Due.is("on(199)", x.on(199), 0);
    }
}
