/** Promises 37 and 38, sentence by sentence: image, restore. */
final class ImageEdges {
    private ImageEdges() { }

    static void run() {
        imageOften();
        imageInPlace();
        imageKeepsPlay();
        imageKeepsFull();
        imageKeepsTexts();
        imageKeepsTape();
        imageKeepsWaiting();
        imageNotSheets();
        imageNotTrace();
        imageNotTold();
        imageNothingElse();
        restoreNone();
        restoreParts();
        restoreStays();
        restoreGrows();
        restoreAtOnce();
    }

    // ---- promise 37

    private static void imageOften() {
        Due.promise(37, "how often that was done");
        FivePlayers x = new FivePlayers();
        for (int n = 1; n <= 40; n++) {
            Due.is("image()", x.image(), n);
        }
        Due.is("restore()", x.restore(), 0);
        Due.is("image(), it isn't kept how often", x.image(), 41);
    }

    private static void imageInPlace() {
        Due.promise(37, "is kept as an IMAGE, in place of one ahead");
        FivePlayers x = new FivePlayers();
        x.image();
        x.part(0, 0);
        x.part(0, 0);
        x.image();
        x.part(0, 0);
        Due.is("restore(), the later one", x.restore(), 2);
        x.restore();
        FivePlayers y = Plays.of(3, 0);
        y.image();
        x = Plays.of(1, 0);
        x.image();
        Due.is("restore(), of another object", y.restore(), 3);
    }

    private static void imageKeepsPlay() {
        Due.promise(37, "All (but SHEETS, THE TRACE, what told() tells, and how often this was done) is kept");
        FivePlayers x = new FivePlayers();
        x.lines(50);
        x.part(3, 1234);
        x.entry(0, 5, 9, 2);
        x.player(4, 40);
        x.know(0, 0, true);
        x.cast(0, 0);
        x.image();
        x.lines(60);
        x.shift(0, 1);
        x.entry(0, 50, 55, 1);
        x.know(0, 0, false);
        x.cast(0, -1);
        x.player(1, 1);
        x.part(1, 1);
        Due.is("restore()", x.restore(), 1);
        int[] counts = {50, 1, 1, 1, 0, 0, 0, 0, 1};
        for (int what = 0; what < counts.length; what++) {
            Due.is("count(" + what + ")", x.count(what), counts[what]);
        }
        int[] looks = {3, 1, 23, 4, 5, 1};
        for (int what = 0; what < looks.length; what++) {
            Due.is("partIs(0, " + what + ")", x.partIs(0, what), looks[what]);
        }
        int[] entry = {0, 5, 9, 2};
        for (int what = 0; what < entry.length; what++) {
            Due.is("entryIs(0, " + what + ")", x.entryIs(0, what), entry[what]);
        }
        Due.is("know(0, 0)", x.know(0, 0, true), 0);
        Due.is("cast(0)", x.cast(0, -1), 0);
        Due.is("GIFT", x.wish(0, 0), 4);
        Due.is("entryIs(1, 0)", x.entryIs(1, 0), Due.BEYOND);
        Due.is("partIs(1, 0)", x.partIs(1, 0), Due.BEYOND);
        Due.is("busy(1)", x.busy(1), Due.BEYOND);
    }

    private static void imageKeepsFull() {
        Due.promise(37, "is kept as an IMAGE");
        FivePlayers x = Plays.full();
        x.take(0, 63);
        for (int part = 0; part < 10; part++) {
            x.cast(part, part % 6);
            x.know(part % 6, part, true);
        }
        x.image();
        for (int entry = 0; entry < 40; entry++) {
            x.shift(entry, -1);
        }
        for (int part = 0; part < 10; part++) {
            x.cast(part, -1);
            x.know(part % 6, part, false);
        }
        Due.is("restore()", x.restore(), 10);
        for (int entry = 0; entry < 40; entry++) {
            Due.is("entryIs(" + entry + ", 1)", x.entryIs(entry, 1), entry * 5);
            Due.is("entryIs(" + entry + ", 2)", x.entryIs(entry, 2), entry * 5 + 4);
        }
        for (int part = 0; part < 10; part++) {
            Due.is("know(.., " + part + ")", x.know(part % 6, part, true), 0);
            Due.is("cast(" + part + ")", x.cast(part, -1), part % 6);
            Due.is("partIs(" + part + ", 1)", x.partIs(part, 1), part);
        }
        Due.is("count(4)", x.count(4), 50);
        Due.is("count(5)", x.count(5), 20);
    }

    private static void imageKeepsTexts() {
        Due.promise(37, "All");
        FivePlayers x = Plays.of(2, 1);
        Due.text(x, 0, "0");
        Due.text(x, 1, "7");
        x.image();
        Due.text(x, 0, "1");
        Due.text(x, 1, "8+1");
        Due.text(x, 2, "6");
        x.restore();
        Due.is("can, by the TEXT ahead", x.can(0, 0), 0);
        Due.is("change, by the TEXT ahead", x.change(0, 1, 0), 7);
        Due.is("wish, without", x.wish(0, 0), 5);
        Due.is("count(7)", x.count(7), 2);
        // none at all
        FivePlayers y = Plays.of(2, 1);
        y.image();
        Due.text(y, 0, "0");
        Due.text(y, 1, "7");
        y.restore();
        Due.is("count(7), none", y.count(7), 0);
        Due.is("can, without", y.can(0, 0), 1);
        Due.is("change, without", y.change(0, 1, 0), 2);
    }

    private static void imageKeepsTape() {
        Due.promise(37, "All");
        FivePlayers x = Plays.of(1, 1);
        Plays.feed(x, "1+2");
        x.image();
        Due.is("count(4), it stays", x.count(4), 3);
        Plays.feed(x, "*3");
        x.text(2);
        Plays.feed(x, "9999");
        x.restore();
        Due.is("count(4), as it was", x.count(4), 3);
        Due.is("text(2)", x.text(2), 1);
        Due.is("wish", x.wish(0, 0), 3);
        x.restore();
        Due.is("count(4), once more", x.count(4), 3);
        Due.is("wish, without", x.wish(0, 0), 5);
    }

    private static void imageKeepsWaiting() {
        Due.promise(37, "All");
        FivePlayers x = Plays.of(2, 2);
        x.tell(1);
        x.tell(0);
        x.image();
        Due.is("count(5), they stay", x.count(5), 2);
        Due.is("check(0)", x.check(0), 2);
        Due.is("count(5)", x.count(5), 0);
        x.tell(0);
        x.tell(1);
        x.tell(1);
        x.restore();
        Due.is("count(5), as it was", x.count(5), 2);
        Due.is("check(0), the first one is so", x.check(0), 2);
    }

    private static void imageNotSheets() {
        Due.promise(37, "(but SHEETS");
        FivePlayers x = Plays.of(2, 2);
        x.sheet(0, 8, 2);
        x.sheet(1, 8, 2);
        x.image();
        x.put(0, 0, 1);
        x.sheet(1, 0, 0);
        x.sheet(2, 16, 1);
        x.sheet(3, 32, 24);
        x.restore();
        Due.is("block(0), the number that was put", x.block(0), 2);
        Due.is("cast(0)", x.cast(0, -1), 1);
        Due.is("block(1), missing", x.block(1), Due.NONE);
        Due.is("put(2, 0, 0)", x.put(2, 0, 0), 1);
        Due.is("put(3, 23, 0)", x.put(3, 23, 0), 1);
    }

    private static void imageNotTrace() {
        Due.promise(37, "THE TRACE");
        FivePlayers x = Plays.kinds();
        x.image();
        x.part(5, 0);
        x.voice(6, 3, 0);
        x.restore();
        Due.is("count(6)", x.count(6), 10);
        Due.is("trace(1), of a PART that is no more", x.trace(1), 61);
        x.image();
        x.voice(0, 0, 0);
        x.restore();
        Due.is("count(6)", x.count(6), 1);
        Due.is("trace(0)", x.trace(0), 10);
    }

    private static void imageNotTold() {
        Due.promise(37, "what told() tells");
        FivePlayers x = new FivePlayers();
        x.lines(0);
        x.image();
        x.lines(0);
        x.trace(0);
        x.sheet(0, 8, -1);
        x.restore();
        Due.is("told(1)", x.told(1), 2);
        Due.is("told(2)", x.told(2), 1);
        Due.is("told(3)", x.told(3), 1);
    }

    private static void imageNothingElse() {
        Due.promise(37, "is kept as an IMAGE");
        FivePlayers x = Plays.rich();
        FivePlayers y = Plays.rich();
        x.image();
        Twins.sameButImage("image()", x, y);
    }

    // ---- promise 38

    private static void restoreNone() {
        Due.promise(38, "NONE: there is none");
        FivePlayers x = Plays.of(3, 1);
        Due.is("restore()", x.restore(), Due.NONE);
        Due.is("count(1)", x.count(1), 3);
        Due.is("count(3)", x.count(3), 1);
        Due.is("told(2)", x.told(2), 1);
        x.image();
        Due.is("restore()", x.restore(), 3);
    }

    private static void restoreParts() {
        Due.promise(38, "All is as the IMAGE has it, which stays: how many PARTS");
        for (int parts = 0; parts <= 10; parts++) {
            FivePlayers x = Plays.of(parts, 0);
            x.image();
            x.part(0, 0);
            Due.is("restore()", x.restore(), parts);
            Due.is("count(1)", x.count(1), parts);
        }
        FivePlayers y = new FivePlayers();
        y.image();
        y.part(0, 0);
        y.entry(0, 0, 9, 0);
        y.player(0, 0);
        y.lines(10);
        y.restore();
        int[] counts = {100, 0, 0, 0, 0, 0, 0, 0, 0};
        for (int what = 0; what < counts.length; what++) {
            Due.is("a new one's count(" + what + ")", y.count(what), counts[what]);
        }
        Due.is("castings(0)", y.castings(0), 1);
    }

    private static void restoreStays() {
        Due.promise(38, "which stays");
        FivePlayers x = Plays.apart(2, 1);
        x.image();
        for (int i = 0; i < 3; i++) {
            x.shift(0, 5 + i);
            x.cast(1, 0);
            x.part(0, 0);
            Due.is("restore()", x.restore(), 2);
            Due.is("entryIs(0, 1)", x.entryIs(0, 1), 0);
            Due.is("count(8)", x.count(8), 0);
        }
        Due.is("image()", x.image(), 2);
    }

    private static void restoreGrows() {
        Due.promise(38, "All is as the IMAGE has it");
        // what comes behind restore() has nothing of what stood there
        FivePlayers x = Plays.of(1, 1);
        x.image();
        x.part(5, 9999);
        x.player(9, 9);
        x.entry(1, 0, 9, 3);
        x.cast(0, 1);
        x.cast(1, 1);
        x.know(0, 1, true);
        x.know(1, 0, true);
        x.know(1, 1, true);
        x.restore();
        Due.is("part", x.part(0, 0), 1);
        Due.is("player", x.player(5, 0), 1);
        Due.is("entry", x.entry(1, 5, 5, 0), 0);
        Due.is("partIs(1, 4)", x.partIs(1, 4), 1);
        Due.is("partIs(1, 0)", x.partIs(1, 0), 0);
        Due.is("cast(0)", x.cast(0, -1), -1);
        Due.is("cast(1)", x.cast(1, -1), -1);
        Due.is("know(0, 1)", x.know(0, 1, false), 0);
        Due.is("know(1, 0)", x.know(1, 0, false), 0);
        Due.is("know(1, 1)", x.know(1, 1, false), 0);
        Due.is("restore()", x.restore(), 1);
        Due.is("count(3)", x.count(3), 1);
    }

    private static void restoreAtOnce() {
        Due.promise(38, "All is as the IMAGE has it");
        FivePlayers x = Plays.rich();
        FivePlayers y = Plays.rich();
        x.image();
        x.restore();
        x.restore();
        y.image();
        Twins.same("restore() right behind image()", x, y);
        x = Plays.full();
        y = Plays.full();
        x.image();
        x.restore();
        y.image();
        Twins.same("restore() right behind image(), full", x, y);
    }
}
