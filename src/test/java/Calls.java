/** The calls of the document's face by their places in it, for tests that choose among them. */
final class Calls {
    static final String[] METHODS = {"lines", "part", "as", "partIs", "entry", "entryIs", "shift", "on",
        "player", "know", "can", "wish", "feed", "text", "change", "two", "cast", "block", "bars", "busy", "fewest",
        "group", "crowd", "helps", "without", "best", "take", "castings", "leave", "never", "voice", "trace", "sheet",
        "put", "move", "image", "restore", "tell", "check", "count", "told"};

    private Calls() { }

    static int place(String method) {
        for (int i = 0; i < METHODS.length; i++) {
            if (METHODS[i].equals(method)) {
                return i;
            }
        }
        throw new IllegalArgumentException(method);
    }

    /** w is the word of feed(); other calls have ints alone. */
    static long call(FivePlayers x, int method, long w, int[] a) {
        switch (METHODS[method]) {
            case "lines": return x.lines(a[0]);
            case "part": return x.part(a[0], a[1]);
            case "as": return x.as(a[0], a[1]);
            case "partIs": return x.partIs(a[0], a[1]);
            case "entry": return x.entry(a[0], a[1], a[2], a[3]);
            case "entryIs": return x.entryIs(a[0], a[1]);
            case "shift": return x.shift(a[0], a[1]);
            case "on": return x.on(a[0]);
            case "player": return x.player(a[0], a[1]);
            case "know": return x.know(a[0], a[1], (a[2] & 1) != 0);
            case "can": return x.can(a[0], a[1]);
            case "wish": return x.wish(a[0], a[1]);
            case "feed": return x.feed(w, a[0]);
            case "text": return x.text(a[0]);
            case "change": return x.change(a[0], a[1], a[2]);
            case "two": return x.two(a[0], a[1], a[2]);
            case "cast": return x.cast(a[0], a[1]);
            case "block": return x.block(a[0]);
            case "bars": return x.bars(a[0]);
            case "busy": return x.busy(a[0]);
            case "fewest": return x.fewest();
            case "group": return x.group(a[0]);
            case "crowd": return x.crowd();
            case "helps": return x.helps(a[0], a[1]);
            case "without": return x.without(a[0]);
            case "best": return x.best(a[0], a[1], a[2]);
            case "take": return x.take(a[0], a[1]);
            case "castings": return x.castings(a[0]);
            case "leave": return x.leave(a[0], a[1]);
            case "never": return x.never(a[0], a[1], a[2]);
            case "voice": return x.voice(a[0], a[1], a[2]);
            case "trace": return x.trace(a[0]);
            case "sheet": return x.sheet(a[0], a[1], a[2]);
            case "put": return x.put(a[0], a[1], a[2]);
            case "move": return x.move(a[0], a[1], a[2], a[3], a[4]);
            case "image": return x.image();
            case "restore": return x.restore();
            case "tell": return x.tell(a[0]);
            case "check": return x.check(a[0]);
            case "count": return x.count(a[0]);
            default: return x.told(a[0]);
        }
    }
}
