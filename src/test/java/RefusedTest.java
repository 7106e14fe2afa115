import java.util.function.Supplier;
import java.util.function.ToLongFunction;

/** Each ERROR of each call: it is told, counted by told(), and changes nothing else, whatever can be asked then. */
public final class RefusedTest {
    private static Supplier<FivePlayers> play = FivePlayers::new;

    public static void main(String[] args) {
        play = Plays::rich;
        play();
        players();
        texts();
        cast();
        fewest();
        castings();
        voices();
        sheets();
        told();
        play = Plays::full;
        full();
        play = FivePlayers::new;
        empty();
        check();
        Due.end();
    }

    /** What comes now are the ERRORS of this promise. */
    private static void of(int n, String words) {
        Due.promise(n, words);
    }

    private static void refuses(int error, String call, ToLongFunction<FivePlayers> act) {
        Twins.refuses("refused " + call, play, error, act);
    }

    private static void beyond(String call, ToLongFunction<FivePlayers> act) {
        refuses(Due.BEYOND, call, act);
    }

    private static void play() {
        of(2, "BEYOND. STATE");
        beyond("lines(9)", x -> x.lines(9));
        beyond("lines(201)", x -> x.lines(201));
        refuses(Due.STATE, "lines(55)", x -> x.lines(55));
        of(3, "BEYOND");
        beyond("part(6, 0)", x -> x.part(6, 0));
        beyond("part(0, 10000)", x -> x.part(0, 10000));
        of(4, "BEYOND. KIND");
        beyond("as(4, 0)", x -> x.as(4, 0));
        beyond("as(0, 6)", x -> x.as(0, 6));
        refuses(Due.KIND, "as(0, 2)", x -> x.as(0, 2));
        of(5, "BEYOND");
        beyond("partIs(4, 0)", x -> x.partIs(4, 0));
        beyond("partIs(0, 6)", x -> x.partIs(0, 6));
        of(6, "BEYOND: PART, LINES");
        beyond("entry(4, 20, 20, 0)", x -> x.entry(4, 20, 20, 0));
        beyond("entry(0, 79, 80, 0)", x -> x.entry(0, 79, 80, 0));
        beyond("entry(0, -1, 5, 0)", x -> x.entry(0, -1, 5, 0));
        beyond("entry(0, 20, 19, 0)", x -> x.entry(0, 20, 19, 0));
        beyond("entry(0, 20, 20, 4)", x -> x.entry(0, 20, 20, 4));
        refuses(Due.STATE, "entry(0, 9, 20, 0)", x -> x.entry(0, 9, 20, 0));
        of(7, "BEYOND");
        beyond("entryIs(5, 0)", x -> x.entryIs(5, 0));
        beyond("entryIs(0, 4)", x -> x.entryIs(0, 4));
        of(8, "BEYOND: no such ENTRY");
        beyond("shift(5, 0)", x -> x.shift(5, 0));
        beyond("shift(0, -1)", x -> x.shift(0, -1));
        beyond("shift(4, 25)", x -> x.shift(4, 25));
        beyond("shift(0, MAX)", x -> x.shift(0, Due.MAX));
        refuses(Due.STATE, "shift(4, -41)", x -> x.shift(4, -41));
        of(9, "BEYOND");
        beyond("on(80)", x -> x.on(80));
        beyond("on(-1)", x -> x.on(-1));
    }

    private static void players() {
        of(10, "BEYOND");
        beyond("player(10, 0)", x -> x.player(10, 0));
        beyond("player(0, 100)", x -> x.player(0, 100));
        of(11, "BEYOND");
        beyond("know(3, 0, true)", x -> x.know(3, 0, true));
        beyond("know(0, 4, true)", x -> x.know(0, 4, true));
        beyond("know(-1, 1, false)", x -> x.know(-1, 1, false));
        of(12, "BEYOND");
        beyond("can(3, 0)", x -> x.can(3, 0));
        beyond("can(0, 4)", x -> x.can(0, 4));
        of(13, "BEYOND");
        beyond("wish(3, 0)", x -> x.wish(3, 0));
        beyond("wish(0, 4)", x -> x.wish(0, 4));
    }

    private static void texts() {
        of(14, "BEYOND");
        beyond("feed('1', 0)", x -> x.feed('1', 0));
        beyond("feed('1', 9)", x -> x.feed('1', 9));
        of(15, "BEYOND (THE TAPE stays)");
        beyond("text(3)", x -> x.text(3));
        beyond("text(-1)", x -> x.text(-1));
        of(16, "BEYOND");
        beyond("change(0, 0, 0)", x -> x.change(0, 0, 0));
        beyond("change(0, 4, 0)", x -> x.change(0, 4, 0));
        beyond("change(4, 0, 0)", x -> x.change(4, 0, 0));
        beyond("change(0, 1, 2)", x -> x.change(0, 1, 2));
    }

    private static void cast() {
        of(17, "BEYOND (one and itself, too). NONE");
        beyond("two(0, 0, 0)", x -> x.two(0, 0, 0));
        beyond("two(4, 0, 0)", x -> x.two(4, 0, 0));
        beyond("two(0, 1, 2)", x -> x.two(0, 1, 2));
        refuses(Due.NONE, "two(1, 3, 1)", x -> x.two(1, 3, 1));
        of(18, "BEYOND");
        beyond("cast(4, 0)", x -> x.cast(4, 0));
        beyond("cast(0, 3)", x -> x.cast(0, 3));
        beyond("cast(0, -2)", x -> x.cast(0, -2));
        of(19, "BEYOND. NONE: it is missing. KIND");
        beyond("block(4)", x -> x.block(4));
        beyond("block(-1)", x -> x.block(-1));
        refuses(Due.NONE, "block(3)", x -> x.block(3));
        refuses(Due.KIND, "block(2)", x -> x.block(2));
        of(20, "BEYOND. NONE");
        beyond("bars(4)", x -> x.bars(4));
        beyond("bars(-1)", x -> x.bars(-1));
        refuses(Due.NONE, "bars(1)", x -> x.bars(1));
        refuses(Due.NONE, "bars(3)", x -> x.bars(3));
        of(21, "BEYOND");
        beyond("busy(3)", x -> x.busy(3));
        beyond("busy(-1)", x -> x.busy(-1));
    }

    private static void fewest() {
        of(23, "BEYOND");
        beyond("group(4)", x -> x.group(4));
        of(25, "BEYOND, STATE as shift()");
        beyond("helps(5, 0)", x -> x.helps(5, 0));
        beyond("helps(0, -1)", x -> x.helps(0, -1));
        beyond("helps(4, 25)", x -> x.helps(4, 25));
        refuses(Due.STATE, "helps(4, -41)", x -> x.helps(4, -41));
        of(26, "BEYOND");
        beyond("without(4)", x -> x.without(4));
    }

    private static void castings() {
        of(27, "BEYOND: way, set, what. NONE");
        beyond("best(4, 7, -1)", x -> x.best(4, 7, -1));
        beyond("best(0, 8, -1)", x -> x.best(0, 8, -1));
        beyond("best(0, 7, 4)", x -> x.best(0, 7, 4));
        beyond("best(0, 7, -2)", x -> x.best(0, 7, -2));
        refuses(Due.NONE, "best(0, 1, -1)", x -> x.best(0, 1, -1));
        of(28, "BEYOND. NONE");
        beyond("take(4, 7)", x -> x.take(4, 7));
        beyond("take(0, 8)", x -> x.take(0, 8));
        refuses(Due.NONE, "take(0, 2)", x -> x.take(0, 2));
        refuses(Due.NONE, "take(3, 0)", x -> x.take(3, 0));
        of(29, "BEYOND");
        beyond("castings(8)", x -> x.castings(8));
        beyond("castings(-1)", x -> x.castings(-1));
        of(30, "BEYOND");
        beyond("leave(8, 0)", x -> x.leave(8, 0));
        beyond("leave(0, 2)", x -> x.leave(0, 2));
        of(31, "BEYOND. NONE");
        beyond("never(8, 0, 0)", x -> x.never(8, 0, 0));
        beyond("never(7, 3, 0)", x -> x.never(7, 3, 0));
        beyond("never(7, 0, 2)", x -> x.never(7, 0, 2));
        refuses(Due.NONE, "never(1, 0, 0)", x -> x.never(1, 0, 0));
    }

    private static void voices() {
        of(32, "BEYOND");
        beyond("voice(4, 0, 0)", x -> x.voice(4, 0, 0));
        beyond("voice(0, 4, 0)", x -> x.voice(0, 4, 0));
        of(33, "NONE");
        refuses(Due.NONE, "trace(-1)", x -> x.trace(-1));
        refuses(Due.NONE, "trace(9)", x -> x.trace(9));
    }

    private static void sheets() {
        of(34, "BEYOND. STATE");
        beyond("sheet(4, 8, 1)", x -> x.sheet(4, 8, 1));
        beyond("sheet(0, 9, 1)", x -> x.sheet(0, 9, 1));
        beyond("sheet(0, 16, 25)", x -> x.sheet(0, 16, 25));
        refuses(Due.STATE, "sheet(0, 16, -1)", x -> x.sheet(0, 16, -1));
        of(35, "BEYOND: no such SHEET. NONE: it is missing. BEYOND: no such number");
        beyond("put(4, 0, 2)", x -> x.put(4, 0, 2));
        refuses(Due.NONE, "put(3, 0, 2)", x -> x.put(3, 0, 2));
        beyond("put(0, 6, 2)", x -> x.put(0, 6, 2));
        beyond("put(0, -1, 2)", x -> x.put(0, -1, 2));
        of(36, "BEYOND: no such SHEET. NONE: one is missing. KIND: they are of unlike bits. BEYOND");
        beyond("move(4, 0, 0, 0, 1)", x -> x.move(4, 0, 0, 0, 1));
        beyond("move(0, 0, -1, 0, 1)", x -> x.move(0, 0, -1, 0, 1));
        refuses(Due.NONE, "move(0, 0, 3, 0, 1)", x -> x.move(0, 0, 3, 0, 1));
        refuses(Due.NONE, "move(3, 0, 0, 0, 1)", x -> x.move(3, 0, 0, 0, 1));
        refuses(Due.KIND, "move(0, 0, 1, 0, 1)", x -> x.move(0, 0, 1, 0, 1));
        beyond("move(0, 0, 2, 0, 7)", x -> x.move(0, 0, 2, 0, 7));
        beyond("move(0, 0, 2, 20, 5)", x -> x.move(0, 0, 2, 20, 5));
        beyond("move(0, 0, 2, 0, -1)", x -> x.move(0, 0, 2, 0, -1));
        beyond("move(2, 23, 0, 0, 2)", x -> x.move(2, 23, 0, 0, 2));
    }

    private static void told() {
        of(41, "BEYOND");
        beyond("count(9)", x -> x.count(9));
        beyond("count(-1)", x -> x.count(-1));
        of(42, "BEYOND");
        beyond("told(0)", x -> x.told(0));
        beyond("told(6)", x -> x.told(6));
    }

    private static void full() {
        of(3, "FULL");
        refuses(Due.FULL, "part(0, 0)", x -> x.part(0, 0));
        beyond("part(6, 0), full", x -> x.part(6, 0));
        of(6, "FULL");
        refuses(Due.FULL, "entry(1, 0, 0, 0)", x -> x.entry(1, 0, 0, 0));
        refuses(Due.STATE, "entry(0, 0, 0, 0), full", x -> x.entry(0, 0, 0, 0));
        beyond("entry(0, 0, 200, 0), full", x -> x.entry(0, 0, 200, 0));
        of(10, "FULL");
        refuses(Due.FULL, "player(0, 0)", x -> x.player(0, 0));
        beyond("player(0, 100), full", x -> x.player(0, 100));
        of(14, "FULL");
        refuses(Due.FULL, "feed('1', 1)", x -> x.feed('1', 1));
        refuses(Due.FULL, "feed('1', 8)", x -> x.feed('1', 8));
        of(38, "NONE: there is none");
        refuses(Due.NONE, "restore()", x -> x.restore());
        of(39, "FULL: 20 wait");
        refuses(Due.FULL, "tell(5)", x -> x.tell(5));
    }

    private static void empty() {
        of(1, "A new object");
        beyond("lines(201), new", x -> x.lines(201));
        beyond("entry(0, 0, 0, 0), new", x -> x.entry(0, 0, 0, 0));
        beyond("cast(0, -1), new", x -> x.cast(0, -1));
        beyond("castings(1), new", x -> x.castings(1));
        refuses(Due.NONE, "restore(), new", x -> x.restore());
        refuses(Due.NONE, "block(0), new", x -> x.block(0));
        refuses(Due.NONE, "trace(0), new", x -> x.trace(0));
    }

    /** A refused check() leaves no numbers that wait: as one that isn't refused does. */
    private static void check() {
        Due.promise(40, "BEYOND, NONE (none wait then, behind either)");
        FivePlayers x = Plays.rich();
        FivePlayers y = Plays.rich();
        Due.is("check(4)", x.check(4), Due.BEYOND);
        Due.is("check(0)", y.check(0) >= 0 ? 1 : 0, 1);
        Due.is("told(1) behind check(4)", x.told(1), y.told(1) + 1);
        Twins.same("check(4)", x, y);
        x = Plays.together(3, 2);
        y = Plays.together(3, 2);
        x.tell(0);
        x.tell(1);
        Due.is("check(0)", x.check(0), Due.NONE);
        Due.is("told(2) behind check(0)", x.told(2), 1);
        Twins.same("check(0)", x, y);
    }
}
