/** Promises 34 to 36: sheet, put, move. block() reads the numbers back. */
public final class SheetTest {
    public static void main(String[] args) {
        sheet();
        put();
        moveErrors();
        move();
        Due.end();
    }

    /** Parts and players for block() to tell numbers -1 .. 5 of ten. */
    private static FivePlayers play() {
        FivePlayers x = new FivePlayers();
        for (int part = 0; part < 10; part++) {
            x.part(0, 0);
        }
        for (int player = 0; player < 6; player++) {
            x.player(0, 0);
        }
        return x;
    }

    private static void sheet() {
        FivePlayers x = play();
        Due.is("sheet(-1, 8, 0)", x.sheet(-1, 8, 0), Due.BEYOND);
        Due.is("sheet(4, 8, 0)", x.sheet(4, 8, 0), Due.BEYOND);
        Due.is("sheet(4, 8, -1)", x.sheet(4, 8, -1), Due.BEYOND);
        Due.is("sheet(4, 0, 0)", x.sheet(4, 0, 0), Due.BEYOND);
        Due.is("sheet(0, 64, 0)", x.sheet(0, 64, 0), Due.BEYOND);
        Due.is("sheet(0, -8, 0)", x.sheet(0, -8, 0), Due.BEYOND);
        Due.is("sheet(0, 9, -1)", x.sheet(0, 9, -1), Due.BEYOND);
        Due.is("sheet(0, 8, -1)", x.sheet(0, 8, -1), Due.STATE);
        Due.is("sheet(0, 8, min)", x.sheet(0, 8, Integer.MIN_VALUE), Due.STATE);
        Due.is("sheet(0, 8, 25)", x.sheet(0, 8, 25), Due.BEYOND);
        Due.is("put, still missing", x.put(0, 0, 0), Due.NONE);
        Due.is("sheet(0, 8, 24)", x.sheet(0, 8, 24), 1);
        Due.is("put(0, 23, 5)", x.put(0, 23, 5), 1);
        Due.is("put(0, 24, 5)", x.put(0, 24, 5), Due.BEYOND);
        Due.is("sheet(0, 16, 0)", x.sheet(0, 16, 0), 1);
        Due.is("put(0, 0, 0), no numbers", x.put(0, 0, 0), Due.BEYOND);
        Due.is("sheet(0, 0, -9)", x.sheet(0, 0, -9), 1);
        Due.is("put(0, 0, 0), missing", x.put(0, 0, 0), Due.NONE);
        Due.is("sheet(0, 0, 99)", x.sheet(0, 0, 99), 1);
        x.sheet(3, 32, 3);
        x.put(3, 0, 5);
        x.put(3, 2, -1);
        x.sheet(3, 32, 4);
        Due.is("block(3), all 0 again", x.block(3), 4);
        for (int part = 0; part < 4; part++) {
            Due.is("cast(" + part + ")", x.cast(part, -1), 0);
        }
    }

    private static void put() {
        FivePlayers x = play();
        Due.is("put(-1, 0, 0)", x.put(-1, 0, 0), Due.BEYOND);
        Due.is("put(4, 0, 0)", x.put(4, 0, 0), Due.BEYOND);
        Due.is("put(1, -1, 0), missing", x.put(1, -1, 0), Due.NONE);
        x.sheet(1, 8, 2);
        Due.is("put(1, 2, 0)", x.put(1, 2, 0), Due.BEYOND);
        Due.is("put(1, -1, 0)", x.put(1, -1, 0), Due.BEYOND);
        puts(x, 8, 0x105, 5);
        puts(x, 8, 255, -1);
        puts(x, 8, 0x12345680, Due.KIND);
        puts(x, 16, 0x10005, 5);
        puts(x, 16, 0xffff, -1);
        puts(x, 16, 255, Due.KIND);
        puts(x, 16, 0x105, Due.KIND);
        puts(x, 32, 5, 5);
        puts(x, 32, -1, -1);
        puts(x, 32, 0xffff, Due.KIND);
        puts(x, 32, 0x10005, Due.KIND);
    }

    /** A number of so many bits, read back as the player whom block() tells. */
    private static void puts(FivePlayers x, int bits, int v, int due) {
        String call = "put of " + v + " in " + bits + " bits";
        x.sheet(2, bits, 1);
        x.cast(0, 3);
        Due.is(call, x.put(2, 0, v), 1);
        if (due == Due.KIND) {
            Due.is("block behind " + call, x.block(2), Due.KIND);
            Due.is("cast, unchanged, behind " + call, x.cast(0, 3), 3);
        } else {
            Due.is("block behind " + call, x.block(2), 1);
            Due.is("cast behind " + call, x.cast(0, 3), due);
        }
    }

    private static void moveErrors() {
        FivePlayers x = play();
        x.sheet(0, 8, 4);
        x.sheet(1, 16, 4);
        x.sheet(2, 8, 2);
        Due.is("move(-1, ..)", x.move(-1, 0, 0, 0, 0), Due.BEYOND);
        Due.is("move(4, ..)", x.move(4, 0, 0, 0, 0), Due.BEYOND);
        Due.is("move to -1", x.move(0, 0, -1, 0, 0), Due.BEYOND);
        Due.is("move to 4", x.move(0, 0, 4, 0, 0), Due.BEYOND);
        Due.is("move of a missing one to none", x.move(3, 0, 4, 0, 0), Due.BEYOND);
        Due.is("move of a missing one", x.move(3, 0, 0, 0, 0), Due.NONE);
        Due.is("move to a missing one", x.move(0, -1, 3, 0, 0), Due.NONE);
        Due.is("move of unlike bits", x.move(0, -1, 1, 0, 0), Due.KIND);
        Due.is("move of unlike bits, back", x.move(1, 0, 0, 0, 0), Due.KIND);
        Due.is("n -1", x.move(0, 0, 2, 0, -1), Due.BEYOND);
        Due.is("i -1", x.move(0, -1, 2, 0, 1), Due.BEYOND);
        Due.is("j -1", x.move(0, 0, 2, -1, 1), Due.BEYOND);
        Due.is("i too high", x.move(0, 4, 2, 0, 1), Due.BEYOND);
        Due.is("j too high", x.move(0, 0, 2, 2, 1), Due.BEYOND);
        Due.is("too many for the other", x.move(0, 0, 2, 0, 3), Due.BEYOND);
        Due.is("too many of it", x.move(2, 0, 0, 0, 3), Due.BEYOND);
        Due.is("none, i too high", x.move(0, 5, 2, 0, 0), Due.BEYOND);
        Due.is("none, j too high", x.move(0, 0, 2, 3, 0), Due.BEYOND);
        Due.is("none, i -1", x.move(0, -1, 2, 0, 0), Due.BEYOND);
        Due.is("none, at the ends", x.move(0, 4, 2, 2, 0), 0);
        Due.is("i and n go round", x.move(0, Integer.MAX_VALUE, 2, 0, Integer.MAX_VALUE), Due.BEYOND);
        Due.is("j goes round", x.move(0, 0, 2, Integer.MAX_VALUE, 2), Due.BEYOND);
    }

    private static void numbers(FivePlayers x, int sheet, int... due) {
        Due.is("block(" + sheet + ")", x.block(sheet), due.length);
        for (int i = 0; i < due.length; i++) {
            Due.is("number " + i + " of " + sheet, x.cast(i, -1), due[i]);
        }
    }

    private static void move() {
        FivePlayers x = play();
        x.sheet(0, 32, 6);
        x.sheet(1, 32, 4);
        for (int i = 0; i < 6; i++) {
            x.put(0, i, i);
        }
        Due.is("move(0, 2, 1, 1, 3)", x.move(0, 2, 1, 1, 3), 3);
        numbers(x, 1, 0, 2, 3, 4);
        numbers(x, 0, 0, 1, 2, 3, 4, 5);
        Due.is("move(0, 0, 0, 2, 4), as they were", x.move(0, 0, 0, 2, 4), 4);
        numbers(x, 0, 0, 1, 0, 1, 2, 3);
        Due.is("move(0, 2, 0, 0, 4), as they were", x.move(0, 2, 0, 0, 4), 4);
        numbers(x, 0, 0, 1, 2, 3, 2, 3);
        Due.is("move(0, 0, 1, 0, 4)", x.move(0, 0, 1, 0, 4), 4);
        numbers(x, 1, 0, 1, 2, 3);
    }
}
