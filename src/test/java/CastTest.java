/** Promises 17 to 21: two, cast, block, bars, busy. */
public final class CastTest {
    public static void main(String[] args) {
        twoErrors();
        twoMeet();
        twoNear();
        twoKinds();
        twoSides();
        cast();
        block();
        bars();
        busy();
        Due.end();
    }

    private static void two(FivePlayers x, int a, int b, int how, int line) {
        String pair = "two(" + a + ", " + b + ", ";
        Due.is(pair + "0)", x.two(a, b, 0), how);
        Due.is(pair + "1)", x.two(a, b, 1), how == 0 ? Due.NONE : line);
        Due.is(pair + "0), the other way", x.two(b, a, 0), how);
        Due.is(pair + "1), the other way", x.two(b, a, 1), how == 0 ? Due.NONE : line);
    }

    private static void twoErrors() {
        FivePlayers x = new FivePlayers();
        x.part(0, 0);
        x.part(0, 0);
        Due.is("two(0, 0, 0)", x.two(0, 0, 0), Due.BEYOND);
        Due.is("two(0, 2, 0)", x.two(0, 2, 0), Due.BEYOND);
        Due.is("two(2, 0, 0)", x.two(2, 0, 0), Due.BEYOND);
        Due.is("two(-1, 0, 0)", x.two(-1, 0, 0), Due.BEYOND);
        Due.is("two(0, -1, 0)", x.two(0, -1, 0), Due.BEYOND);
        Due.is("two(0, 1, 2)", x.two(0, 1, 2), Due.BEYOND);
        Due.is("two(0, 1, -1)", x.two(0, 1, -1), Due.BEYOND);
        two(x, 0, 1, 0, 0);
    }

    private static void twoMeet() {
        FivePlayers x = new FivePlayers();
        x.part(0, 0);
        x.part(0, 0);
        x.entry(0, 60, 70, 0);
        x.entry(1, 70, 80, 0);
        two(x, 0, 1, 2, 70);
        x.entry(0, 10, 20, 0);
        x.entry(1, 5, 15, 0);
        two(x, 0, 1, 2, 10);
        x.entry(1, 0, 0, 0);
        x.entry(0, 0, 0, 0);
        two(x, 0, 1, 2, 0);
    }

    private static void twoNear() {
        FivePlayers x = new FivePlayers();
        x.part(0, 1);
        x.part(0, 4);
        x.entry(0, 10, 20, 0);
        x.entry(1, 26, 30, 0);
        // 21 to 25 are five, as many as the change takes
        two(x, 0, 1, 0, 0);
        x.shift(1, -1);
        two(x, 0, 1, 3, 25);
        x.shift(1, -4);
        two(x, 0, 1, 3, 21);
        x.shift(1, -1);
        two(x, 0, 1, 2, 20);
        x.shift(1, 10);
        two(x, 0, 1, 0, 0);
        x.entry(0, 36, 40, 0);
        two(x, 0, 1, 3, 36);
        x.entry(0, 0, 1, 0);
        x.entry(1, 3, 5, 0);
        two(x, 0, 1, 3, 3);
        // 10 is too near behind 5, too, but later
        Due.is("bars on the least of several", x.two(0, 1, 1), 3);
        x.shift(4, 1);
        two(x, 0, 1, 3, 4);
        // the first ENTRY of all is the later one
        FivePlayers y = new FivePlayers();
        y.part(0, 0);
        y.part(0, 0);
        y.entry(0, 50, 59, 0);
        y.entry(1, 40, 48, 0);
        two(y, 0, 1, 3, 50);
    }

    private static void twoKinds() {
        // two parts that meet, by kinds: an OFF one only those who speak
        FivePlayers x = new FivePlayers();
        for (int kind = 0; kind < 6; kind++) {
            x.part(kind, 0);
            x.entry(kind, 0, 9, 0);
        }
        x.part(3, 9);
        x.entry(6, 5, 9, 0);
        two(x, 3, 0, 0, 0);
        two(x, 3, 1, 2, 0);
        two(x, 3, 2, 0, 0);
        two(x, 3, 4, 0, 0);
        two(x, 3, 5, 2, 0);
        two(x, 3, 6, 2, 5);
        two(x, 0, 4, 2, 0);
        two(x, 4, 5, 2, 0);
        near();
    }

    private static void near() {
        // seven LINES between, eight are wanted: half of it of a MASKED one, nothing of an OFF one
        FivePlayers x = new FivePlayers();
        for (int kind = 0; kind < 6; kind++) {
            x.part(kind, 0);
            x.entry(kind, 0, 1, 0);
        }
        x.part(0, 6);
        x.entry(6, 9, 9, 0);
        x.part(4, 7);
        x.entry(7, 5, 5, 0);
        x.part(3, 9);
        x.entry(8, 2, 2, 0);
        two(x, 0, 6, 3, 9);
        two(x, 1, 6, 3, 9);
        two(x, 2, 6, 3, 9);
        two(x, 3, 6, 0, 0);
        two(x, 4, 6, 0, 0);
        two(x, 5, 6, 3, 9);
        // three LINES between, half of nine are four
        two(x, 0, 7, 3, 5);
        two(x, 4, 7, 3, 5);
        two(x, 3, 7, 0, 0);
        x.shift(7, 1);
        two(x, 0, 7, 0, 0);
        two(x, 4, 7, 0, 0);
        for (int part = 0; part < 6; part++) {
            two(x, part, 8, 0, 0);
        }
    }

    private static void twoSides() {
        FivePlayers x = new FivePlayers();
        x.part(0, 0);
        x.part(0, 0);
        x.part(0, 0);
        x.part(0, 0);
        Due.is("text(1)", Due.text(x, 1, "9-s*9"), 1);
        // goes to side 1; the others come from 0, 1
        x.entry(0, 0, 0, 1);
        x.entry(1, 5, 5, 0);
        x.entry(2, 5, 5, 2);
        two(x, 0, 1, 3, 5);
        two(x, 0, 2, 0, 0);
        // goes to side 0, comes from 1
        x.entry(3, 1, 1, 2);
        two(x, 3, 1, 0, 0);
        two(x, 3, 2, 3, 5);
        two(x, 0, 3, 0, 0);
        // just as long as it takes with the same side, which is no more
        Due.is("text(1)", Due.text(x, 1, "3-s"), 1);
        x.shift(0, 2);
        two(x, 0, 1, 3, 5);
        two(x, 0, 2, 0, 0);
        Due.is("text(1)", Due.text(x, 1, "2+s"), 1);
        two(x, 0, 1, 0, 0);
        two(x, 0, 2, 3, 5);
        Due.is("text(1)", Due.text(x, 1, "1+s"), 1);
        two(x, 0, 2, 0, 0);
        // how long depends on which is left
        x.part(0, 1);
        x.part(0, 8);
        x.entry(4, 50, 50, 0);
        x.entry(5, 54, 54, 0);
        Due.is("text(1)", Due.text(x, 1, "w"), 1);
        two(x, 4, 5, 0, 0);
        x.shift(5, -8);
        two(x, 4, 5, 3, 50);
    }

    private static void cast() {
        FivePlayers x = new FivePlayers();
        x.part(0, 9000);
        x.part(0, 0);
        x.player(0, 0);
        x.player(0, 0);
        Due.is("cast(2, 0)", x.cast(2, 0), Due.BEYOND);
        Due.is("cast(-1, 0)", x.cast(-1, 0), Due.BEYOND);
        Due.is("cast(0, 2)", x.cast(0, 2), Due.BEYOND);
        Due.is("cast(0, -2)", x.cast(0, -2), Due.BEYOND);
        Due.is("cast(0, -1)", x.cast(0, -1), -1);
        Due.is("cast(0, 1), who can't", x.cast(0, 1), -1);
        Due.is("cast(0, 0)", x.cast(0, 0), 1);
        Due.is("cast(1, 1)", x.cast(1, 1), -1);
        Due.is("count(8)", x.count(8), 2);
        Due.is("cast(0, -1)", x.cast(0, -1), 0);
        Due.is("count(8)", x.count(8), 1);
    }

    private static void block() {
        FivePlayers x = new FivePlayers();
        Due.is("block(-1)", x.block(-1), Due.BEYOND);
        Due.is("block(4)", x.block(4), Due.BEYOND);
        Due.is("block(3)", x.block(3), Due.NONE);
        x.sheet(3, 32, 3);
        Due.is("block(3), no parts", x.block(3), 0);
        x.part(0, 0);
        x.part(0, 0);
        Due.is("block(3), no such player", x.block(3), Due.KIND);
        x.player(0, 0);
        x.player(0, 0);
        x.put(3, 0, 1);
        x.put(3, 1, -1);
        x.put(3, 2, 77);
        Due.is("block(3), two parts", x.block(3), 2);
        Due.is("cast(0), it was", x.cast(0, -1), 1);
        Due.is("cast(1), it was", x.cast(1, 1), -1);
        x.put(3, 1, -2);
        Due.is("block(3), -2", x.block(3), Due.KIND);
        Due.is("cast(0), unchanged", x.cast(0, -1), -1);
        x.put(3, 1, 0);
        x.part(0, 0);
        Due.is("block(3), three parts", x.block(3), Due.KIND);
        x.sheet(1, 8, 2);
        Due.is("block(1), two numbers", x.block(1), 2);
        Due.is("cast(2), not told", x.cast(2, -1), -1);
        Due.is("cast(1), it was", x.cast(1, -1), 0);
        x.sheet(1, 16, 0);
        Due.is("block(1), no numbers", x.block(1), 0);
        x.sheet(1, 0, 0);
        Due.is("block(1), missing again", x.block(1), Due.NONE);
    }

    private static void bars(FivePlayers x, int... due) {
        for (int what = 0; what < 4; what++) {
            Due.is("bars(" + what + ")", x.bars(what), what < due.length ? due[what] : Due.NONE);
        }
    }

    private static void bars() {
        FivePlayers x = new FivePlayers();
        x.part(0, 1000);
        x.part(0, 2000);
        x.part(0, 3000);
        x.part(0, 0);
        x.player(2, 0);
        x.player(9, 0);
        Due.is("bars(4)", x.bars(4), Due.BEYOND);
        Due.is("bars(-1)", x.bars(-1), Due.BEYOND);
        bars(x, 0);
        x.cast(2, 0);
        bars(x, 1, 2);
        x.entry(1, 10, 19, 0);
        x.entry(3, 21, 30, 0);
        x.cast(1, 1);
        x.cast(3, 1);
        // PART 1 has less than PART 2
        bars(x, 3, 1, 3, 21);
        x.entry(1, 30, 39, 0);
        bars(x, 2, 1, 3, 30);
        x.entry(0, 20, 20, 0);
        x.cast(0, 1);
        bars(x, 3, 0, 1, 20);
        x.cast(0, 0);
        bars(x, 2, 1, 3, 30);
        x.cast(1, 0);
        bars(x, 3, 0, 1, 20);
        x.cast(0, -1);
        bars(x, 1, 2);
        x.cast(2, 1);
        bars(x, 0);
        // 0 isn't barred with 2, but with 3
        x.entry(0, 60, 60, 0);
        x.entry(3, 60, 60, 0);
        x.cast(1, -1);
        x.cast(0, 1);
        x.cast(3, 1);
        bars(x, 2, 0, 3, 60);
        x.cast(3, -1);
        x.cast(1, 0);
        // what one can't is asked first of a PART, but of PARTS in turn
        x.cast(0, 0);
        Due.is("text(0)", Due.text(x, 0, "n>1"), 1);
        bars(x, 1, 0);
        Due.is("text(0)", Due.text(x, 0, "n<2"), 1);
        bars(x, 3, 0, 1, 20);
    }

    private static void busy() {
        FivePlayers x = new FivePlayers();
        x.part(0, 0);
        x.part(3, 0);
        x.part(0, 0);
        x.player(0, 0);
        x.player(0, 0);
        x.entry(0, 0, 9, 0);
        x.entry(1, 5, 14, 0);
        x.entry(2, 90, 99, 0);
        Due.is("busy(2)", x.busy(2), Due.BEYOND);
        Due.is("busy(-1)", x.busy(-1), Due.BEYOND);
        Due.is("busy(0), not cast", x.busy(0), 0);
        x.cast(0, 0);
        Due.is("busy(0), one", x.busy(0), 10);
        x.cast(1, 0);
        Due.is("busy(0), each told once", x.busy(0), 15);
        x.cast(2, 0);
        Due.is("busy(0), all", x.busy(0), 25);
        x.cast(0, 1);
        Due.is("busy(1)", x.busy(1), 10);
        Due.is("busy(0), two", x.busy(0), 20);
    }
}
