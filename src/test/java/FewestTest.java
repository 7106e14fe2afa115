/** Promises 22 to 26: fewest, group, crowd, helps, without. */
public final class FewestTest {
    public static void main(String[] args) {
        fewest();
        wheel();
        group();
        crowd();
        helps();
        without();
        Due.end();
    }

    /** Parts of which two meet just where the pairs say so. */
    private static FivePlayers play(int parts, int... pairs) {
        FivePlayers x = new FivePlayers();
        x.lines(200);
        for (int part = 0; part < parts; part++) {
            x.part(0, 0);
        }
        for (int i = 0; i + 1 < pairs.length; i += 2) {
            int line = 5 * i;
            x.entry(pairs[i], line, line, 0);
            x.entry(pairs[i + 1], line, line, 0);
        }
        return x;
    }

    private static void groups(FivePlayers x, String due) {
        for (int part = 0; part < due.length(); part++) {
            Due.is("group(" + part + ")", x.group(part), due.charAt(part) - '0');
        }
    }

    private static void fewest() {
        Due.is("no part", play(0).fewest(), 0);
        Due.is("one", play(1).fewest(), 1);
        Due.is("ten apart", play(10).fewest(), 1);
        Due.is("two that meet", play(2, 0, 1).fewest(), 2);
        Due.is("a row", play(4, 0, 1, 1, 2, 2, 3).fewest(), 2);
        Due.is("a ring of five", play(5, 0, 1, 1, 2, 2, 3, 3, 4, 4, 0).fewest(), 3);
        FivePlayers x = new FivePlayers();
        for (int part = 0; part < 10; part++) {
            x.part(1, 0);
            x.entry(part, part * 3, 50, 0);
            Due.is("all meet", x.fewest(), part + 1);
        }
        FivePlayers y = play(2);
        y.entry(0, 0, 3, 0);
        y.entry(1, 5, 9, 0);
        Due.is("two too near", y.fewest(), 2);
        y.player(9, 0);
        Due.is("players don't matter", y.fewest(), 2);
    }

    private static void wheel() {
        // a ring of five and one that meets all of it
        FivePlayers x = play(6, 1, 2, 2, 3, 3, 4, 4, 5, 5, 1, 0, 1, 0, 2, 0, 3, 0, 4, 0, 5);
        Due.is("wheel", x.fewest(), 4);
        groups(x, "012123");
        for (int part = 0; part < 6; part++) {
            Due.is("wheel without " + part, x.without(part), 3);
        }
    }

    private static void group() {
        FivePlayers x = play(6, 0, 5, 1, 4);
        groups(x, "000011");
        // all but 0 and 1 meet
        FivePlayers y = play(4, 0, 3, 1, 3, 0, 2, 1, 2, 2, 3);
        Due.is("fewest", y.fewest(), 3);
        groups(y, "0012");
        // 0 - 2 - 3 - 1: were 0 and 1 together, it would take three
        FivePlayers z = play(4, 0, 2, 2, 3, 3, 1);
        Due.is("fewest", z.fewest(), 2);
        groups(z, "0110");
        groups(play(3, 0, 1, 1, 2, 2, 0), "012");
        Due.is("group(4)", z.group(4), Due.BEYOND);
        Due.is("group(-1)", z.group(-1), Due.BEYOND);
    }

    private static void crowd() {
        FivePlayers x = new FivePlayers();
        for (int kind = 0; kind < 6; kind++) {
            x.part(kind, 0);
        }
        Due.is("nobody on", x.crowd(), 0);
        x.entry(3, 99, 99, 0);
        Due.is("an OFF one alone", x.crowd(), 0);
        x.entry(1, 99, 99, 0);
        Due.is("one, and an OFF one", x.crowd(), 1);
        x.entry(0, 0, 10, 0);
        x.entry(2, 0, 5, 0);
        x.entry(4, 5, 9, 0);
        x.entry(5, 6, 12, 0);
        Due.is("three", x.crowd(), 3);
        x.entry(1, 9, 20, 0);
        Due.is("four", x.crowd(), 4);
        FivePlayers y = new FivePlayers();
        y.part(0, 0);
        y.part(0, 0);
        y.entry(0, 0, 0, 0);
        Due.is("on the first LINE, in the first ENTRY", y.crowd(), 1);
        y.entry(1, 0, 0, 0);
        Due.is("both on the first LINE", y.crowd(), 2);
        y.shift(0, 99);
        y.shift(1, 99);
        Due.is("both on the last LINE", y.crowd(), 2);
    }

    private static void helps() {
        FivePlayers x = play(3);
        x.entry(0, 0, 9, 0);
        x.entry(1, 5, 14, 0);
        x.entry(2, 8, 20, 0);
        x.entry(0, 60, 69, 0);
        Due.is("helps(4, 0)", x.helps(4, 0), Due.BEYOND);
        Due.is("helps(-1, 0)", x.helps(-1, 0), Due.BEYOND);
        Due.is("helps(0, -1)", x.helps(0, -1), Due.BEYOND);
        Due.is("helps(0, max)", x.helps(0, Integer.MAX_VALUE), Due.BEYOND);
        Due.is("helps(0, 51)", x.helps(0, 51), Due.STATE);
        Due.is("helps(0, 69)", x.helps(0, 69), Due.STATE);
        Due.is("helps(0, 0)", x.helps(0, 0), 3);
        Due.is("helps(0, 100)", x.helps(0, 100), 2);
        Due.is("helps(1, 16), barred with one", x.helps(1, 16), 2);
        Due.is("helps(2, 9)", x.helps(2, 9), 2);
        Due.is("fewest, as it was", x.fewest(), 3);
        Due.is("entryIs(2, 1), as it was", x.entryIs(2, 1), 8);
        Due.is("entryIs(2, 2), as it was", x.entryIs(2, 2), 20);
        Due.is("two(0, 1), as it was", x.two(0, 1, 1), 5);
    }

    private static void without() {
        FivePlayers x = play(5, 0, 1, 1, 2, 2, 0, 3, 4);
        Due.is("fewest", x.fewest(), 3);
        int[] due = {2, 2, 2, 3, 3};
        for (int part = 0; part < 5; part++) {
            Due.is("without(" + part + ")", x.without(part), due[part]);
        }
        Due.is("without(5)", x.without(5), Due.BEYOND);
        Due.is("without(-1)", x.without(-1), Due.BEYOND);
        Due.is("the only one", play(1).without(0), 0);
        Due.is("one of two", play(2, 0, 1).without(1), 1);
        groups(x, "01201");
    }
}
