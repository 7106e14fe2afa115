import java.util.ArrayList;
import java.util.List;

/**
 * Each call with all arguments at and around their least and greatest, in all combinations, on an empty, a rich and a
 * full play: the same answers, and so the same ERROR first, as of SlowPlayers.
 */
public final class GridTest {
    private static final String[] EMPTY = {};
    private static final String[] RICH = {"lines 60", "part 1 2305", "part 4 1201", "part 3 409", "player 4 30",
        "player 2 50", "entry 0 0 9 1", "entry 1 5 12 2", "image", "part 5 3458", "entry 2 6 8 0", "entry 3 30 39 3",
        "entry 0 50 59 0", "player 9 70", "know 0 1 1", "know 2 3 1", "cast 0 2", "cast 2 1", "feed 49 1", "tell 2",
        "tell 0", "sheet 0 8 3", "put 0 0 1", "put 0 2 2", "sheet 1 16 2", "put 1 1 1", "sheet 2 8 24", "put 2 0 99",
        "voice 2 3 11"};
    private static final String[] FULL = full();
    /** How many calls one object is used for. */
    private static final int CALLS = 350;

    /** A method, then the least and the greatest of each argument in each play. */
    private record Row(String method, int... ends) { }

    private final String[] start;
    private FivePlayers x = new FivePlayers();
    private SlowPlayers slow = new SlowPlayers();
    private int used = 0;

    private GridTest(String[] start) {
        this.start = start;
    }

    public static void main(String[] args) {
        new GridTest(EMPTY).run(rows(0, 0, 0, 100, 0));
        new GridTest(EMPTY).run(castingRows(0, 0));
        new GridTest(RICH).run(rows(4, 5, 3, 60, 9));
        new GridTest(RICH).run(castingRows(4, 3));
        new GridTest(FULL).run(rows(10, 40, 6, 200, 1));
        Due.end();
    }

    private static String[] full() {
        List<String> all = new ArrayList<>(List.of("lines 200"));
        for (int part = 0; part < 10; part++) {
            all.add("part " + part % 6 + " " + 1111 * part);
        }
        for (int entry = 0; entry < 40; entry++) {
            all.add("entry " + entry % 10 + " " + entry * 5 + " " + (entry * 5 + 3) + " " + entry % 4);
        }
        for (int i = 0; i < 6; i++) {
            all.add("player " + (9 - i) + " " + (99 - i));
            all.add("feed 3544952156018063160 8");
        }
        all.add("feed 12593 2");
        for (int i = 0; i < 20; i++) {
            all.add("tell " + i % 6);
        }
        for (int sheet = 0; sheet < 4; sheet++) {
            all.add("sheet " + sheet + " 32 24");
        }
        all.add("voice 0 0 0");
        return all.toArray(new String[0]);
    }

    private static List<Row> rows(int parts, int entries, int players, int lines, int bodies) {
        int p = parts - 1;
        int e = entries - 1;
        int l = lines - 1;
        int q = players - 1;
        return List.of(new Row("lines", 10, 200), new Row("part", 0, 5, 0, 9999), new Row("as", 0, p, 0, 5),
            new Row("partIs", 0, p, 0, 5), new Row("entry", 0, p, 0, l, 0, l, 0, 3), new Row("entryIs", 0, e, 0, 3),
            new Row("shift", 0, e, 0, l), new Row("shift", 0, e, -l, 0), new Row("shift", 0, e, -5, 5),
            new Row("on", 0, l), new Row("player", 0, 9, 0, 99), new Row("know", 0, q, 0, p, 0, 1),
            new Row("can", 0, q, 0, p), new Row("wish", 0, q, 0, p), new Row("feed", 1, 8), new Row("text", 0, 2),
            new Row("change", 0, p, 0, p, 0, 1), new Row("two", 0, p, 0, p, 0, 1), new Row("cast", 0, p, -1, q),
            new Row("block", 0, 3), new Row("bars", 0, 3), new Row("busy", 0, q), new Row("fewest"),
            new Row("group", 0, p), new Row("crowd"), new Row("helps", 0, e, 0, l), new Row("helps", 0, e, -l, 0),
            new Row("without", 0, p), new Row("voice", 0, p, 0, 3, -5, 5), new Row("trace", 0, bodies - 1),
            new Row("sheet", 0, 3, 8, 32, 0, 24), new Row("sheet", 0, 3, 0, 16, 0, 24), new Row("put", 0, 3, 0, 23, 0, 5),
            new Row("put", 0, 3, 0, 2, -1, 255), new Row("move", 0, 3, 0, 2, 0, 3, 0, 23, 0, 3),
            new Row("move", 0, 3, 0, 23, 0, 3, 0, 2, 1, 24), new Row("image"), new Row("restore"), new Row("tell", 0, q),
            new Row("count", 0, 8), new Row("told", 1, 5));
    }

    /** SlowPlayers tries all castings, which are too many in the full play. */
    private static List<Row> castingRows(int parts, int players) {
        int p = parts - 1;
        int q = players - 1;
        int sets = (1 << players) - 1;
        return List.of(new Row("best", 0, 3, 0, sets, -1, p), new Row("take", 0, 3, 0, sets), new Row("castings", 0, sets),
            new Row("leave", 0, sets, 0, 1), new Row("never", 0, sets, 0, q, 0, 1), new Row("check", 0, 3));
    }

    private void run(List<Row> rows) {
        for (Row row : rows) {
            renew();
            int method = Calls.place(row.method());
            int[][] values = new int[row.ends().length / 2][];
            for (int i = 0; i < values.length; i++) {
                values[i] = around(row.ends()[2 * i], row.ends()[2 * i + 1]);
            }
            combine(method, values, new int[values.length], 0);
        }
    }

    private static int[] around(int low, int high) {
        int[] all = {Due.MIN, low - 1, low, low + 1, (low + high) / 2, high - 1, high, high + 1, Due.MAX};
        List<Integer> once = new ArrayList<>();
        for (int v : all) {
            if (!once.contains(v)) {
                once.add(v);
            }
        }
        return once.stream().mapToInt(Integer::intValue).toArray();
    }

    private void combine(int method, int[][] values, int[] a, int i) {
        if (i < values.length) {
            for (int v : values[i]) {
                a[i] = v;
                combine(method, values, a, i + 1);
            }
            return;
        }
        long answer = both(method, 0x67332b322b312b30L, a);
        // what was done would be in the way of what comes next
        if (answer > -1000000 || used > CALLS) {
            renew();
        }
    }

    private long both(int method, long word, int... a) {
        StringBuilder call = new StringBuilder(Calls.METHODS[method]);
        for (int v : a) {
            call.append(' ').append(v);
        }
        used++;
        long want = slow.call(method, word, a);
        Due.is(start.length + " calls, then " + call, Calls.call(x, method, word, a), want);
        return want;
    }

    private void renew() {
        for (int what = 0; what < 9; what++) {
            both(Calls.place("count"), 0, what);
        }
        for (int k = 1; k <= 5; k++) {
            both(Calls.place("told"), 0, k);
        }
        x = new FivePlayers();
        slow = new SlowPlayers();
        used = 0;
        for (String line : start) {
            String[] words = line.split(" ");
            int method = Calls.place(words[0]);
            boolean fed = words[0].equals("feed");
            long word = fed ? Long.parseLong(words[1]) : 0;
            int[] a = new int[words.length - (fed ? 2 : 1)];
            for (int i = 0; i < a.length; i++) {
                a[i] = Integer.parseInt(words[i + words.length - a.length]);
            }
            both(method, word, a);
        }
    }
}
