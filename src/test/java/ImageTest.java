/** Promises 37 and 38: image, restore. */
public final class ImageTest {
    public static void main(String[] args) {
        none();
        all();
        notKept();
        grownAgain();
        Due.end();
    }

    private static void none() {
        FivePlayers x = new FivePlayers();
        x.part(0, 0);
        Due.is("restore()", x.restore(), Due.NONE);
        Due.is("count(1)", x.count(1), 1);
        Due.is("told(2)", x.told(2), 1);
        Due.is("image()", x.image(), 1);
        Due.is("restore()", x.restore(), 1);
    }

    private static FivePlayers play() {
        FivePlayers x = new FivePlayers();
        x.lines(50);
        x.part(1, 2205);
        x.part(2, 0);
        x.entry(0, 0, 9, 1);
        x.entry(1, 20, 29, 2);
        x.player(3, 30);
        x.player(1, 10);
        x.know(0, 1, true);
        x.cast(0, 1);
        Due.text(x, 0, "a>y");
        Due.text(x, 2, "n+l");
        Due.feed(x, "w+v");
        x.tell(0);
        x.tell(0);
        return x;
    }

    private static void isAsKept(String when, FivePlayers x) {
        int[] due = {50, 2, 2, 2, 3, 2};
        for (int what = 0; what < due.length; what++) {
            Due.is(when + ", count(" + what + ")", x.count(what), due[what]);
        }
        Due.is(when + ", count(7)", x.count(7), 2);
        Due.is(when + ", count(8)", x.count(8), 1);
        Due.is(when + ", partIs(0, 0)", x.partIs(0, 0), 1);
        Due.is(when + ", partIs(0, 2)", x.partIs(0, 2), 20);
        Due.is(when + ", partIs(1, 0)", x.partIs(1, 0), 2);
        Due.is(when + ", entryIs(1, 0)", x.entryIs(1, 0), 1);
        Due.is(when + ", entryIs(1, 1)", x.entryIs(1, 1), 20);
        Due.is(when + ", entryIs(1, 2)", x.entryIs(1, 2), 29);
        Due.is(when + ", entryIs(1, 3)", x.entryIs(1, 3), 2);
        Due.is(when + ", can(1, 0)", x.can(1, 0), 0);
        Due.is(when + ", can(1, 1)", x.can(1, 1), 1);
        Due.is(when + ", wish(0, 0)", x.wish(0, 0), 12);
        Due.is(when + ", know(0, 1)", x.know(0, 1, true), 0);
        Due.is(when + ", know(0, 0)", x.know(0, 0, false), 0);
        Due.is(when + ", cast(0)", x.cast(0, 1), 1);
        Due.is(when + ", cast(1)", x.cast(1, -1), -1);
        Due.is(when + ", change(0, 1, 0)", x.change(0, 1, 0), 7);
    }

    private static void all() {
        FivePlayers x = play();
        isAsKept("first", x);
        Due.is("image()", x.image(), 1);
        isAsKept("behind image()", x);
        x.lines(150);
        x.part(5, 9);
        x.shift(1, 5);
        x.entry(2, 60, 90, 0);
        x.player(0, 0);
        x.know(0, 1, false);
        x.know(0, 0, true);
        x.cast(0, 0);
        x.cast(1, 1);
        Due.is("text(1)", x.text(1), 1);
        Due.text(x, 0, "1");
        Due.text(x, 2, "7");
        x.check(0);
        x.tell(9);
        Due.is("change by the TEXT", x.change(0, 1, 0), 5);
        Due.is("restore()", x.restore(), 2);
        isAsKept("restored", x);
        Due.is("text(1), of the TAPE as it was", x.text(1), 1);
        Due.is("change by that", x.change(0, 1, 0), 5);
        x.shift(0, 1);
        Due.is("restore() again", x.restore(), 2);
        isAsKept("restored again", x);
        Due.is("entryIs(0, 1)", x.entryIs(0, 1), 0);
        // the numbers that waited: THE BEST by way 0 is 0, 1
        Due.is("tell, a third one", x.tell(5), 3);
        Due.is("check(0)", x.check(0), 2);
        x.part(0, 0);
        Due.is("image() again", x.image(), 2);
        x.part(0, 0);
        Due.is("restore(), of the later one", x.restore(), 3);
    }

    private static void notKept() {
        FivePlayers x = play();
        x.sheet(0, 8, 2);
        x.voice(0, 2, 0);
        Due.is("image()", x.image(), 1);
        x.sheet(0, 16, 3);
        x.put(0, 2, 1);
        x.sheet(1, 8, 1);
        x.voice(0, 1, 0);
        Due.is("an ERROR", x.lines(0), Due.BEYOND);
        int bodies = x.count(6);
        Due.is("image(), how often", x.image(), 2);
        Due.is("restore()", x.restore(), 2);
        Due.is("put(0, 2, 1), the SHEET stays", x.put(0, 2, 1), 1);
        Due.is("put(1, 0, 1), this one too", x.put(1, 0, 1), 1);
        Due.is("move, it has 16 bits", x.move(0, 0, 1, 0, 1), Due.KIND);
        Due.is("count(6), THE TRACE stays", x.count(6), bodies);
        Due.is("trace(0)", x.trace(0), 20);
        Due.is("told(1) stays", x.told(1), 1);
        Due.is("image(), how often", x.image(), 3);
    }

    private static void grownAgain() {
        // what comes behind restore() has nothing of what stood there
        FivePlayers x = new FivePlayers();
        x.part(0, 0);
        x.player(5, 0);
        x.image();
        x.part(0, 0);
        x.player(5, 0);
        x.cast(1, 1);
        x.know(1, 0, true);
        x.know(0, 1, true);
        Due.is("restore()", x.restore(), 1);
        Due.is("part", x.part(0, 0), 1);
        Due.is("player", x.player(5, 0), 1);
        Due.is("cast(1), nobody", x.cast(1, -1), -1);
        Due.is("know(1, 0), not", x.know(1, 0, false), 0);
        Due.is("know(0, 1), not", x.know(0, 1, false), 0);
    }
}
