/** Promises 22 to 26 and term 5, sentence by sentence: fewest, group, crowd, helps, without. */
final class FewestEdges {
    private FewestEdges() { }

    static void run() {
        fewestNone();
        fewestMost();
        fewestBarred();
        fewestAnyKind();
        fewestRing();
        groupFirst();
        groupLeast();
        groupMost();
        groupBeyond();
        crowdNone();
        crowdOff();
        crowdMost();
        helpsLater();
        helpsKeeps();
        helpsBeyond();
        helpsState();
        withoutOne();
        withoutBarred();
        withoutKeeps();
        withoutBeyond();
    }

    /** PARTS of which two MEET just where the pairs say so. */
    private static FivePlayers pairs(int parts, int... pairs) {
        FivePlayers x = Plays.of(parts, 0);
        x.lines(200);
        for (int i = 0; i + 1 < pairs.length; i += 2) {
            x.entry(pairs[i], 5 * i, 5 * i, 0);
            x.entry(pairs[i + 1], 5 * i, 5 * i, 0);
        }
        return x;
    }

    private static void groups(FivePlayers x, int fewest, String due) {
        Due.is("fewest()", x.fewest(), fewest);
        for (int part = 0; part < due.length(); part++) {
            Due.is("group(" + part + ")", x.group(part), due.charAt(part) - '0');
        }
    }

    // ---- promise 22

    private static void fewestNone() {
        Due.promise(22, "THE FEWEST");
        Due.is("no PARTS", new FivePlayers().fewest(), 0);
        Due.is("one", Plays.of(1, 0).fewest(), 1);
        Due.is("ten that are never on", Plays.of(10, 0).fewest(), 1);
        Due.is("ten apart", Plays.apart(10, 0).fewest(), 1);
    }

    private static void fewestMost() {
        Due.term(22, "how many players of any kind all PARTS want at least");
        for (int parts = 0; parts <= 10; parts++) {
            Due.is(parts + " together", Plays.together(parts, 1).fewest(), parts);
        }
    }

    private static void fewestBarred() {
        Due.term(22, "if no two that are BARRED are one's");
        FivePlayers x = Plays.of(2, 0);
        x.entry(0, 0, 9, 0);
        x.entry(1, 9, 19, 0);
        Due.is("they MEET", x.fewest(), 2);
        x.shift(1, 1);
        Due.is("they are TOO NEAR", x.fewest(), 2);
        x.shift(1, 1);
        Due.is("one LINE between", x.fewest(), 2);
        x.shift(1, 1);
        Due.is("as many LINES as the CHANGE", x.fewest(), 1);
        Due.text(x, 1, "3");
        Due.is("by a TEXT", x.fewest(), 2);
    }

    private static void fewestAnyKind() {
        Due.term(22, "players of any kind");
        FivePlayers x = Plays.together(3, 0);
        Due.is("no PLAYERS", x.fewest(), 3);
        x.player(9, 0);
        Due.text(x, 0, "0");
        Due.is("nobody can", x.fewest(), 3);
        x.cast(0, 0);
        x.cast(1, 0);
        Due.is("whatever THE CAST tells", x.fewest(), 3);
    }

    private static void fewestRing() {
        Due.promise(22, "THE FEWEST");
        Due.is("a ring of five", pairs(5, 0, 1, 1, 2, 2, 3, 3, 4, 4, 0).fewest(), 3);
        Due.is("a ring of six", pairs(6, 0, 1, 1, 2, 2, 3, 3, 4, 4, 5, 5, 0).fewest(), 2);
        // Petersen's graph: no three meet one another, but two groups don't do
        int[] petersen = {0, 1, 1, 2, 2, 3, 3, 4, 4, 0, 0, 5, 1, 6, 2, 7, 3, 8, 4, 9, 5, 7, 7, 9, 9, 6, 6, 8, 8, 5};
        Due.is("fifteen pairs of ten", pairs(10, petersen).fewest(), 3);
        // Moser's spindle: no four meet one another, but three groups don't do
        int[] moser = {0, 1, 0, 2, 1, 2, 1, 3, 2, 3, 0, 4, 0, 5, 4, 5, 4, 6, 5, 6, 3, 6};
        Due.is("eleven pairs of seven", pairs(7, moser).fewest(), 4);
    }

    // ---- promise 23

    private static void groupFirst() {
        Due.term(23, "PART 0 is in group 0, each other one in one that is there or the next");
        groups(Plays.of(1, 0), 1, "0");
        groups(Plays.of(10, 0), 1, "0000000000");
        groups(Plays.together(10, 0), 10, "0123456789");
        groups(pairs(2, 0, 1), 2, "01");
        groups(pairs(3, 1, 2), 2, "001");
    }

    private static void groupLeast() {
        Due.term(23, "for PARTS by numbers the least group that leads to it");
        // 0 - 2 - 3 - 1: were 0 and 1 in one, it would take three
        groups(pairs(4, 0, 2, 2, 3, 3, 1), 2, "0110");
        // 0 and 1 may be in one here
        groups(pairs(4, 0, 2, 1, 2, 1, 3), 2, "0011");
        // a crown: each of 0, 2, 4 meets all of 1, 3, 5 but the next one
        groups(pairs(6, 0, 3, 0, 5, 2, 1, 2, 5, 4, 1, 4, 3), 2, "010101");
        groups(pairs(5, 0, 1, 1, 2, 2, 3, 3, 4, 4, 0), 3, "01012");
    }

    private static void groupMost() {
        Due.promise(23, "The group of a PART");
        FivePlayers x = Plays.together(9, 0);
        x.part(0, 0);
        groups(x, 9, "0123456780");
        x.entry(9, 0, 0, 0);
        groups(x, 10, "0123456789");
    }

    private static void groupBeyond() {
        Due.promise(23, "BEYOND");
        FivePlayers x = Plays.together(3, 0);
        Due.outside("group", 0, 2, Due.BEYOND, x::group);
        Due.is("group(2)", x.group(2), 2);
        FivePlayers y = new FivePlayers();
        Due.is("no PARTS", y.group(0), Due.BEYOND);
    }

    // ---- promise 24

    private static void crowdNone() {
        Due.promise(24, "CROWD");
        Due.is("no PARTS", new FivePlayers().crowd(), 0);
        FivePlayers x = Plays.of(10, 0);
        Due.is("none is on", x.crowd(), 0);
        x.entry(5, 50, 50, 0);
        Due.is("one is on", x.crowd(), 1);
        Due.is("all are on", Plays.together(10, 0).crowd(), 10);
    }

    private static void crowdOff() {
        Due.term(24, "the most PARTS, but OFF ones");
        FivePlayers x = Plays.kinds();
        x.entry(3, 0, 99, 0);
        Due.is("an OFF one", x.crowd(), 0);
        int due = 0;
        for (int kind = 0; kind < 6; kind++) {
            if (kind != 3) {
                x.entry(kind, 7, 7, 0);
                due++;
            }
            Due.is("up to KIND " + kind, x.crowd(), due);
        }
        Due.is("on(7) counts it", x.on(7), 6);
    }

    private static void crowdMost() {
        Due.term(24, "that are on at one LINE");
        FivePlayers x = Plays.of(3, 0);
        x.lines(200);
        x.entry(0, 0, 0, 0);
        x.entry(1, 0, 0, 0);
        Due.is("on the first LINE", x.crowd(), 2);
        x.shift(0, 1);
        Due.is("right behind one another", x.crowd(), 1);
        x.entry(0, 150, 199, 0);
        x.entry(1, 199, 199, 0);
        Due.is("on the last LINE", x.crowd(), 2);
        x.entry(2, 100, 149, 0);
        Due.is("ahead of them", x.crowd(), 2);
        x.shift(4, 50);
        Due.is("with them", x.crowd(), 3);
    }

    // ---- promise 25

    private static void helpsLater() {
        Due.promise(25, "THE FEWEST, if an ENTRY were by LINES later");
        FivePlayers x = Plays.of(2, 0);
        x.entry(0, 0, 9, 0);
        x.entry(1, 5, 14, 0);
        Due.is("by 0", x.helps(1, 0), 2);
        Due.is("by 5, TOO NEAR", x.helps(1, 5), 2);
        Due.is("by 6, TOO NEAR", x.helps(1, 6), 2);
        Due.is("by 7", x.helps(1, 7), 1);
        Due.is("to the last LINE", x.helps(1, 85), 1);
        Due.is("by -5", x.helps(1, -5), 2);
        Due.is("the other one, to the last LINE", x.helps(0, 90), 1);
    }

    private static void helpsKeeps() {
        Due.promise(25, "if an ENTRY were by LINES later");
        FivePlayers x = Plays.of(2, 0);
        x.entry(0, 0, 9, 0);
        x.entry(1, 5, 14, 0);
        Due.is("helps(1, 60)", x.helps(1, 60), 1);
        Due.is("from", x.entryIs(1, 1), 5);
        Due.is("to", x.entryIs(1, 2), 14);
        Due.is("fewest()", x.fewest(), 2);
        Due.is("on(65)", x.on(65), 0);
        Due.is("helps(0, -0)", x.helps(0, 0), 2);
        Due.is("group(1)", x.group(1), 1);
    }

    private static void helpsBeyond() {
        Due.promise(25, "BEYOND, STATE as shift()");
        FivePlayers x = Plays.of(1, 0);
        x.entry(0, 0, 5, 0);
        x.entry(0, 50, 59, 0);
        Due.outside("helps, entry", 0, 1, Due.BEYOND, entry -> x.helps(entry, 0));
        Due.outside("helps(0, by)", 0, 94, Due.BEYOND, by -> x.helps(0, by));
        Due.outside("helps(1, by)", -50, 40, Due.BEYOND, by -> x.helps(1, by));
        Due.is("to goes round by little", x.helps(0, Due.MAX - 4), Due.BEYOND);
        Due.is("from", x.entryIs(0, 1), 0);
        Due.is("to", x.entryIs(0, 2), 5);
        Due.is("helps(0, 94)", x.helps(0, 94), 1);
    }

    private static void helpsState() {
        Due.promise(25, "STATE as shift()");
        FivePlayers x = Plays.of(2, 0);
        x.entry(0, 10, 14, 0);
        x.entry(0, 20, 24, 0);
        x.entry(1, 0, 99, 0);
        Due.is("its last LINE on the other's first", x.helps(0, 6), Due.STATE);
        Due.is("its first LINE on the other's last", x.helps(0, 14), Due.STATE);
        Due.is("from", x.entryIs(0, 1), 10);
        Due.is("right ahead of the other one", x.helps(0, 5), 2);
        Due.is("right behind the other one", x.helps(0, 15), 2);
        Due.is("on its own LINES", x.helps(0, 1), 2);
        x.shift(1, 75);
        Due.is("beyond, and the other one is there", x.helps(0, 86), Due.BEYOND);
    }

    // ---- promise 26

    private static void withoutOne() {
        Due.promise(26, "THE FEWEST of all PARTS but one");
        Due.is("the only one", Plays.of(1, 0).without(0), 0);
        for (int part = 0; part < 10; part++) {
            Due.is("of ten together", Plays.together(10, 0).without(part), 9);
            Due.is("of ten apart", Plays.apart(10, 0).without(part), 1);
        }
    }

    private static void withoutBarred() {
        Due.promise(26, "THE FEWEST of all PARTS but one");
        FivePlayers x = pairs(4, 0, 1, 0, 2, 0, 3);
        Due.is("fewest()", x.fewest(), 2);
        Due.is("without(0)", x.without(0), 1);
        Due.is("without(1)", x.without(1), 2);
        Due.is("without(3)", x.without(3), 2);
        FivePlayers y = pairs(5, 0, 1, 1, 2, 2, 3, 3, 4, 4, 0);
        for (int part = 0; part < 5; part++) {
            Due.is("a ring of five without " + part, y.without(part), 2);
        }
    }

    private static void withoutKeeps() {
        Due.promise(26, "of all PARTS but one");
        FivePlayers x = Plays.together(3, 0);
        Due.is("without(0)", x.without(0), 2);
        groups(x, 3, "012");
        Due.is("count(1)", x.count(1), 3);
        Due.is("partIs(0, 5)", x.partIs(0, 5), 1);
    }

    private static void withoutBeyond() {
        Due.promise(26, "BEYOND");
        FivePlayers x = Plays.together(3, 0);
        Due.outside("without", 0, 2, Due.BEYOND, x::without);
        Due.is("without(2)", x.without(2), 2);
        FivePlayers y = new FivePlayers();
        Due.is("no PARTS", y.without(0), Due.BEYOND);
    }
}
