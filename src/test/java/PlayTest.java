/** Promises 1 to 9: a new object, lines, part, as, partIs, entry, entryIs, shift, on. */
public final class PlayTest {
    public static void main(String[] args) {
        newObject();
        lines();
        part();
        as();
        partIs();
        entry();
        entryIs();
        shift();
        on();
        Due.end();
    }

    private static void newObject() {
        FivePlayers x = new FivePlayers();
        int[] due = {100, 0, 0, 0, 0, 0, 0, 0, 0};
        for (int what = 0; what < due.length; what++) {
            Due.is("new count(" + what + ")", x.count(what), due[what]);
        }
        for (int k = 1; k <= 5; k++) {
            Due.is("new told(" + k + ")", x.told(k), 0);
        }
        Due.is("new fewest()", x.fewest(), 0);
        Due.is("new crowd()", x.crowd(), 0);
        Due.is("new bars(0)", x.bars(0), 0);
        Due.is("new castings(0)", x.castings(0), 1);
        Due.is("new best(2, 0, -1)", x.best(2, 0, -1), 0);
        Due.is("new leave(0, 1)", x.leave(0, 1), 0);
        Due.is("new restore()", x.restore(), Due.NONE);
        Due.is("new put(0, 0, 0)", x.put(0, 0, 0), Due.NONE);
        Due.is("new trace(0)", x.trace(0), Due.NONE);
    }

    private static void lines() {
        FivePlayers x = new FivePlayers();
        Due.is("lines(9)", x.lines(9), Due.BEYOND);
        Due.is("lines(201)", x.lines(201), Due.BEYOND);
        Due.is("lines(min)", x.lines(Integer.MIN_VALUE), Due.BEYOND);
        Due.is("lines(10)", x.lines(10), 100);
        Due.is("lines(200)", x.lines(200), 10);
        x.part(0, 0);
        Due.is("entry to 199", x.entry(0, 150, 199, 0), 0);
        Due.is("lines(199)", x.lines(199), Due.STATE);
        Due.is("lines(9), with an entry", x.lines(9), Due.BEYOND);
        Due.is("lines(200) again", x.lines(200), 200);
        Due.is("shift(0, -100)", x.shift(0, -100), 50);
        Due.is("lines(99)", x.lines(99), Due.STATE);
        Due.is("lines(100)", x.lines(100), 200);
        Due.is("count(0)", x.count(0), 100);
    }

    private static void part() {
        FivePlayers x = new FivePlayers();
        Due.is("part(-1, 0)", x.part(-1, 0), Due.BEYOND);
        Due.is("part(6, 0)", x.part(6, 0), Due.BEYOND);
        Due.is("part(0, -1)", x.part(0, -1), Due.BEYOND);
        Due.is("part(0, 10000)", x.part(0, 10000), Due.BEYOND);
        for (int i = 0; i < 10; i++) {
            Due.is("part", x.part(i % 6, 9999 - i), i);
        }
        Due.is("part(0, 10000), full", x.part(0, 10000), Due.BEYOND);
        Due.is("part(0, 0), full", x.part(0, 0), Due.FULL);
        Due.is("count(1)", x.count(1), 10);
    }

    private static void as() {
        // by kinds: the kinds that a part of that kind is of
        String[] kinds = {"0", "01", "02", "013", "024", "015"};
        FivePlayers x = new FivePlayers();
        for (int kind = 0; kind < 6; kind++) {
            x.part(kind, 0);
            x.entry(kind, 10 * kind, 11 * kind, 0);
        }
        for (int part = 0; part < 6; part++) {
            for (int kind = 0; kind < 6; kind++) {
                boolean is = kinds[part].indexOf((char) ('0' + kind)) >= 0;
                Due.is("as(" + part + ", " + kind + ")", x.as(part, kind), is ? part + 1 : Due.KIND);
            }
        }
        Due.is("as(6, 0)", x.as(6, 0), Due.BEYOND);
        Due.is("as(-1, 0)", x.as(-1, 0), Due.BEYOND);
        Due.is("as(0, 6)", x.as(0, 6), Due.BEYOND);
        Due.is("as(0, -1)", x.as(0, -1), Due.BEYOND);
    }

    private static void partIs() {
        FivePlayers x = new FivePlayers();
        x.part(4, 7654);
        x.part(5, 9990);
        x.part(0, 9);
        x.entry(0, 0, 0, 0);
        x.entry(0, 2, 5, 0);
        int[][] due = {{4, 7, 65, 4, 5, 2}, {5, 9, 99, 0, 0, 0}, {0, 0, 0, 9, 0, 0}};
        for (int part = 0; part < 3; part++) {
            for (int what = 0; what < 6; what++) {
                Due.is("partIs(" + part + ", " + what + ")", x.partIs(part, what), due[part][what]);
            }
        }
        Due.is("partIs(0, 6)", x.partIs(0, 6), Due.BEYOND);
        Due.is("partIs(0, -1)", x.partIs(0, -1), Due.BEYOND);
        Due.is("partIs(3, 0)", x.partIs(3, 0), Due.BEYOND);
        Due.is("partIs(-1, 0)", x.partIs(-1, 0), Due.BEYOND);
    }

    private static void entry() {
        FivePlayers x = new FivePlayers();
        Due.is("entry of no part", x.entry(0, 0, 0, 0), Due.BEYOND);
        x.part(0, 0);
        x.part(0, 0);
        Due.is("entry(-1, ..)", x.entry(-1, 0, 0, 0), Due.BEYOND);
        Due.is("from -1", x.entry(0, -1, 0, 0), Due.BEYOND);
        Due.is("to 100", x.entry(0, 0, 100, 0), Due.BEYOND);
        Due.is("from and to 100", x.entry(0, 100, 100, 0), Due.BEYOND);
        Due.is("to ahead of from", x.entry(0, 5, 4, 0), Due.BEYOND);
        Due.is("sides 4", x.entry(0, 5, 5, 4), Due.BEYOND);
        Due.is("sides -1", x.entry(0, 5, 5, -1), Due.BEYOND);
        Due.is("entry(0, 10, 19, 3)", x.entry(0, 10, 19, 3), 0);
        Due.is("ends on the first one's LINE", x.entry(0, 5, 10, 0), Due.STATE);
        Due.is("begins on its last LINE", x.entry(0, 19, 30, 0), Due.STATE);
        Due.is("within it", x.entry(0, 12, 13, 0), Due.STATE);
        Due.is("around it", x.entry(0, 0, 99, 0), Due.STATE);
        Due.is("ahead of it", x.entry(0, 0, 9, 0), 1);
        Due.is("behind it", x.entry(0, 20, 99, 0), 2);
        Due.is("of another part", x.entry(1, 0, 0, 0), 3);
        for (int i = 4; i < 40; i++) {
            Due.is("entry " + i, x.entry(1, i, i, 0), i);
        }
        Due.is("full, but BEYOND", x.entry(1, 90, 89, 0), Due.BEYOND);
        Due.is("full, but STATE", x.entry(1, 4, 4, 0), Due.STATE);
        Due.is("full", x.entry(1, 50, 50, 0), Due.FULL);
        Due.is("count(2)", x.count(2), 40);
    }

    private static void entryIs() {
        FivePlayers x = new FivePlayers();
        x.part(0, 0);
        x.part(0, 0);
        x.entry(1, 7, 9, 2);
        x.entry(0, 3, 3, 1);
        int[][] due = {{1, 7, 9, 2}, {0, 3, 3, 1}};
        for (int entry = 0; entry < 2; entry++) {
            for (int what = 0; what < 4; what++) {
                Due.is("entryIs(" + entry + ", " + what + ")", x.entryIs(entry, what), due[entry][what]);
            }
        }
        Due.is("entryIs(0, 4)", x.entryIs(0, 4), Due.BEYOND);
        Due.is("entryIs(0, -1)", x.entryIs(0, -1), Due.BEYOND);
        Due.is("entryIs(2, 0)", x.entryIs(2, 0), Due.BEYOND);
        Due.is("entryIs(-1, 0)", x.entryIs(-1, 0), Due.BEYOND);
    }

    private static void shift() {
        FivePlayers x = new FivePlayers();
        x.part(0, 0);
        x.part(0, 0);
        x.entry(0, 10, 14, 3);
        x.entry(0, 20, 24, 0);
        x.entry(1, 30, 30, 0);
        Due.is("shift(3, 0)", x.shift(3, 0), Due.BEYOND);
        Due.is("shift(-1, 0)", x.shift(-1, 0), Due.BEYOND);
        Due.is("shift(0, -11)", x.shift(0, -11), Due.BEYOND);
        Due.is("shift(1, 76)", x.shift(1, 76), Due.BEYOND);
        Due.is("shift(0, max)", x.shift(0, Integer.MAX_VALUE), Due.BEYOND);
        Due.is("shift(0, min)", x.shift(0, Integer.MIN_VALUE), Due.BEYOND);
        Due.is("shift(0, 6)", x.shift(0, 6), Due.STATE);
        Due.is("shift(1, -6)", x.shift(1, -6), Due.STATE);
        Due.is("shift(0, 5), to the next one's LINE ahead", x.shift(0, 5), 15);
        Due.is("shift(0, 2)", x.shift(0, 2), Due.STATE);
        Due.is("shift(0, 0)", x.shift(0, 0), 15);
        Due.is("shift(0, -2), over itself", x.shift(0, -2), 13);
        Due.is("shift(0, 12), over the other one", x.shift(0, 12), 25);
        Due.is("entryIs(0, 2)", x.entryIs(0, 2), 29);
        Due.is("entryIs(0, 3)", x.entryIs(0, 3), 3);
        Due.is("shift(0, -25)", x.shift(0, -25), 0);
        Due.is("shift(1, 75)", x.shift(1, 75), 95);
        Due.is("shift(2, 69), where another PART is on", x.shift(2, 69), 99);
        Due.is("shift(2, 1)", x.shift(2, 1), Due.BEYOND);
    }

    private static void on() {
        FivePlayers x = new FivePlayers();
        for (int kind = 0; kind < 6; kind++) {
            x.part(kind, 0);
            x.entry(kind, kind, 10, 0);
        }
        for (int line = 0; line < 10; line++) {
            Due.is("on(" + line + ")", x.on(line), Math.min(line + 1, 6));
        }
        Due.is("on(10)", x.on(10), 6);
        Due.is("on(11)", x.on(11), 0);
        Due.is("on(99)", x.on(99), 0);
        Due.is("on(100)", x.on(100), Due.BEYOND);
        Due.is("on(-1)", x.on(-1), Due.BEYOND);
        x.lines(20);
        Due.is("on(20), of 20", x.on(20), Due.BEYOND);
    }
}
