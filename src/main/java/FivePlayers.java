import java.util.Arrays;

/** Many parts of a play for few players. ../shared/DOC.md says what each call answers. */
public final class FivePlayers {
    private static final int LOW = -1000000;
    private static final int BEYOND = 1;
    private static final int NONE = 2;
    private static final int STATE = 3;
    private static final int FULL = 4;
    private static final int KIND = 5;
    private static final int ERRORS = 5;

    private static final int LEAST_LINES = 10;
    private static final int MOST_LINES = 200;
    private static final int MOST_PARTS = 10;
    private static final int MOST_ENTRIES = 40;
    private static final int MOST_PLAYERS = 6;
    private static final int MOST_BYTES = 50;
    private static final int MOST_WAITING = 20;
    private static final int MOST_TRACED = 40;
    private static final int SHEETS = 4;
    private static final int MOST_NUMBERS = 24;
    private static final int MOST_OPEN = 5;
    private static final int PART_SETS = 1 << MOST_PARTS;

    private static final int SPOKEN = 1;
    private static final int MUTE = 2;
    private static final int OFF = 3;
    private static final int MASKED = 4;
    private static final int KING = 5;
    private static final int KINDS = 6;

    private static final int CAN = 0;
    private static final int CHANGE = 1;
    private static final int WISH = 2;
    private static final int USES = 3;

    private static final int BY_WISHES = 0;
    private static final int BY_LEARNING = 1;
    private static final int BY_GREATEST = 2;
    private static final int BY_MOVED = 3;
    private static final int WAYS = 4;

    private static final int NOBODY = -1;

    private final Play play = new Play();
    private final Stage stage = new Stage(play);
    private final Solver solver = new Solver(play, stage);
    private final Reader reader = new Reader();
    private final Play kept = new Play();
    private final Row traced = new Row(MOST_TRACED);
    private final Row[] sheets = new Row[SHEETS];
    private final int[] sheetBits = new int[SHEETS];
    private final int[] errors = new int[ERRORS + 1];
    private int images = 0;

    public FivePlayers() {
        for (int i = 0; i < SHEETS; i++) {
            sheets[i] = new Row(MOST_NUMBERS);
        }
    }

    // ---- the play

    public int lines(int n) {
        if (n < LEAST_LINES || n > MOST_LINES) {
            return error(BEYOND);
        }
        if (play.lastLine() >= n) {
            return error(STATE);
        }
        int before = play.lines;
        play.lines = n;
        return before;
    }

    public int part(int kind, int looks) {
        if (!isWithin(kind, KINDS) || !isWithin(looks, 10000)) {
            return error(BEYOND);
        }
        if (play.parts >= MOST_PARTS) {
            return error(FULL);
        }
        return play.addPart(newRole(kind, looks));
    }

    public int as(int part, int kind) {
        if (!play.hasPart(part) || !isWithin(kind, KINDS)) {
            return error(BEYOND);
        }
        if (!play.role[part].isOf(kind)) {
            return error(KIND);
        }
        return play.weight(part);
    }

    public int partIs(int part, int what) {
        if (!play.hasPart(part) || !isWithin(what, 6)) {
            return error(BEYOND);
        }
        Role role = play.role[part];
        switch (what) {
            case 0: return role.kind;
            case 1: return role.need;
            case 2: return role.age;
            case 3: return role.wig;
            case 4: return play.weight(part);
            default: return play.entriesOf(part);
        }
    }

    public int entry(int part, int from, int to, int sides) {
        if (!play.hasPart(part) || !play.hasLine(from) || !play.hasLine(to)
                || to < from || !isWithin(sides, 4)) {
            return error(BEYOND);
        }
        if (play.isTaken(part, from, to, NOBODY)) {
            return error(STATE);
        }
        if (play.entries >= MOST_ENTRIES) {
            return error(FULL);
        }
        return play.addEntry(part, from, to, sides);
    }

    public int entryIs(int entry, int what) {
        if (!play.hasEntry(entry) || !isWithin(what, 4)) {
            return error(BEYOND);
        }
        switch (what) {
            case 0: return play.whose[entry];
            case 1: return play.from[entry];
            case 2: return play.to[entry];
            default: return play.sides[entry];
        }
    }

    public int shift(int entry, int by) {
        int wrong = shiftError(entry, by);
        if (wrong != 0) {
            return error(wrong);
        }
        play.delay(entry, by);
        return play.from[entry];
    }

    public int on(int line) {
        if (!play.hasLine(line)) {
            return error(BEYOND);
        }
        int sum = 0;
        for (int e = 0; e < play.entries; e++) {
            if (play.covers(e, line)) {
                sum++;
            }
        }
        return sum;
    }

    // ---- players

    public int player(int gift, int age) {
        if (!isWithin(gift, 10) || !isWithin(age, 100)) {
            return error(BEYOND);
        }
        if (play.players >= MOST_PLAYERS) {
            return error(FULL);
        }
        return play.addPlayer(gift, age);
    }

    public int know(int player, int part, boolean does) {
        if (!play.hasPlayer(player) || !play.hasPart(part)) {
            return error(BEYOND);
        }
        if (play.knows(player, part) == does) {
            return 0;
        }
        play.known[player] ^= 1 << part;
        return 1;
    }

    public int can(int player, int part) {
        if (!play.hasPlayer(player) || !play.hasPart(part)) {
            return error(BEYOND);
        }
        return stage.isAble(player, part) ? 1 : 0;
    }

    public int wish(int player, int part) {
        if (!play.hasPlayer(player) || !play.hasPart(part)) {
            return error(BEYOND);
        }
        return stage.wishOf(player, part);
    }

    // ---- texts

    public int feed(long word, int n) {
        if (n < 1 || n > 8) {
            return error(BEYOND);
        }
        if (play.tape.size + n > MOST_BYTES) {
            return error(FULL);
        }
        for (int i = 0; i < n; i++) {
            play.tape.add((int) (word >>> (8 * i)) & 255);
        }
        return play.tape.size;
    }

    public int text(int use) {
        if (!isWithin(use, USES)) {
            return error(BEYOND);
        }
        boolean whole = reader.reads(play.tape, use);
        play.tape.size = 0;
        if (!whole) {
            return -10 - reader.place;
        }
        play.texts[use].become(reader.code);
        return 1;
    }

    public int change(int from, int to, int s) {
        if (!isPair(from, to) || !isWithin(s, 2)) {
            return error(BEYOND);
        }
        return stage.changeOf(from, to, s);
    }

    // ---- two parts, the cast

    public int two(int a, int b, int what) {
        if (!isPair(a, b) || !isWithin(what, 2)) {
            return error(BEYOND);
        }
        int how = stage.howBarred(a, b);
        if (what == 0) {
            return how;
        }
        return how == 0 ? error(NONE) : stage.barLine;
    }

    public int cast(int part, int player) {
        if (!play.hasPart(part) || !play.isPlayerOrNobody(player)) {
            return error(BEYOND);
        }
        int before = play.told[part];
        play.told[part] = player;
        return before;
    }

    public int block(int sheet) {
        if (!isWithin(sheet, SHEETS)) {
            return error(BEYOND);
        }
        if (isMissing(sheet)) {
            return error(NONE);
        }
        Row row = sheets[sheet];
        int n = Math.min(row.size, play.parts);
        for (int i = 0; i < n; i++) {
            if (!play.isPlayerOrNobody(row.at[i])) {
                return error(KIND);
            }
        }
        System.arraycopy(row.at, 0, play.told, 0, n);
        return n;
    }

    public int bars(int what) {
        if (!isWithin(what, 4)) {
            return error(BEYOND);
        }
        int how = stage.findBar();
        if (what == 0) {
            return how;
        }
        if (how == 0 || (how == Stage.UNABLE && what > 1)) {
            return error(NONE);
        }
        switch (what) {
            case 1: return stage.barPart;
            case 2: return stage.barOther;
            default: return stage.barLine;
        }
    }

    public int busy(int player) {
        if (!play.hasPlayer(player)) {
            return error(BEYOND);
        }
        int sum = 0;
        for (int line = 0; line < play.lines; line++) {
            if (play.isOnStage(player, line)) {
                sum++;
            }
        }
        return sum;
    }

    // ---- the fewest

    public int fewest() {
        return solver.fewestGroups(NOBODY);
    }

    public int group(int part) {
        if (!play.hasPart(part)) {
            return error(BEYOND);
        }
        solver.fewestGroups(NOBODY);
        return solver.groupOf[part];
    }

    public int crowd() {
        int most = 0;
        for (int line = 0; line < play.lines; line++) {
            most = Math.max(most, play.seenOn(line));
        }
        return most;
    }

    public int helps(int entry, int by) {
        int wrong = shiftError(entry, by);
        if (wrong != 0) {
            return error(wrong);
        }
        play.delay(entry, by);
        int groups = solver.fewestGroups(NOBODY);
        play.delay(entry, -by);
        return groups;
    }

    public int without(int part) {
        if (!play.hasPart(part)) {
            return error(BEYOND);
        }
        return solver.fewestGroups(part);
    }

    // ---- castings

    public int best(int way, int players, int what) {
        if (!isWithin(way, WAYS) || !play.isSet(players) || what < -1 || what >= play.parts) {
            return error(BEYOND);
        }
        if (!solver.findBest(way, players)) {
            return error(NONE);
        }
        return what < 0 ? solver.sum : solver.playerOf[what];
    }

    public int take(int way, int players) {
        if (!isWithin(way, WAYS) || !play.isSet(players)) {
            return error(BEYOND);
        }
        if (!solver.findBest(way, players)) {
            return error(NONE);
        }
        System.arraycopy(solver.playerOf, 0, play.told, 0, play.parts);
        return solver.sum;
    }

    public long castings(int players) {
        if (!play.isSet(players)) {
            return error(BEYOND);
        }
        solver.countCastings(players);
        return solver.castingsOf[play.allParts()];
    }

    public int leave(int players, int what) {
        if (!play.isSet(players) || !isWithin(what, 2)) {
            return error(BEYOND);
        }
        solver.countCastings(players);
        int left = solver.leftOut();
        return what == 0 ? play.weightOfSet(left) : left;
    }

    public int never(int players, int player, int what) {
        if (!play.isSet(players) || !play.hasPlayer(player) || !isWithin(what, 2)) {
            return error(BEYOND);
        }
        int one = 1 << player;
        solver.countCastings(players & ~one);
        if (!solver.findShares(player, (players & one) != 0)) {
            return error(NONE);
        }
        return what == 0 ? play.allParts() & ~solver.inSome : solver.inEach;
    }

    // ---- voices, sheets, images, what is told

    public int voice(int part, int act, int x) {
        if (!play.hasPart(part) || !isWithin(act, 4)) {
            return error(BEYOND);
        }
        Role role = play.role[part];
        traced.size = 0;
        switch (act) {
            case 0: return role.speak(x, traced);
            case 1: return role.walk(x, traced);
            case 2: return role.die(x, traced);
            default: return role.bow(x, traced);
        }
    }

    public int trace(int i) {
        if (!isWithin(i, traced.size)) {
            return error(NONE);
        }
        return traced.at[i];
    }

    public int sheet(int sheet, int bits, int n) {
        if (!isWithin(sheet, SHEETS) || (bits != 0 && bits != 8 && bits != 16 && bits != 32)) {
            return error(BEYOND);
        }
        if (bits != 0 && n < 0) {
            return error(STATE);
        }
        if (bits != 0 && n > MOST_NUMBERS) {
            return error(BEYOND);
        }
        sheetBits[sheet] = bits;
        sheets[sheet].size = bits == 0 ? 0 : n;
        Arrays.fill(sheets[sheet].at, 0);
        return 1;
    }

    public int put(int sheet, int i, int v) {
        if (!isWithin(sheet, SHEETS)) {
            return error(BEYOND);
        }
        if (isMissing(sheet)) {
            return error(NONE);
        }
        if (!isWithin(i, sheets[sheet].size)) {
            return error(BEYOND);
        }
        sheets[sheet].at[i] = lowestBits(v, sheetBits[sheet]);
        return 1;
    }

    public int move(int sheet, int i, int other, int j, int n) {
        if (!isWithin(sheet, SHEETS) || !isWithin(other, SHEETS)) {
            return error(BEYOND);
        }
        if (isMissing(sheet) || isMissing(other)) {
            return error(NONE);
        }
        if (sheetBits[sheet] != sheetBits[other]) {
            return error(KIND);
        }
        if (!sheets[sheet].holds(i, n) || !sheets[other].holds(j, n)) {
            return error(BEYOND);
        }
        System.arraycopy(sheets[sheet].at, i, sheets[other].at, j, n);
        return n;
    }

    public int image() {
        kept.become(play);
        images++;
        return images;
    }

    public int restore() {
        if (images == 0) {
            return error(NONE);
        }
        play.become(kept);
        return play.parts;
    }

    public int tell(int v) {
        if (play.waiting.size >= MOST_WAITING) {
            return error(FULL);
        }
        play.waiting.add(v);
        return play.waiting.size;
    }

    public int check(int way) {
        int n = play.waiting.size;
        play.waiting.size = 0;
        if (!isWithin(way, WAYS)) {
            return error(BEYOND);
        }
        if (!solver.findBest(way, play.allPlayers())) {
            return error(NONE);
        }
        for (int i = 0; i < n; i++) {
            if (i >= play.parts || play.waiting.at[i] != solver.playerOf[i]) {
                return 1 + i;
            }
        }
        return 0;
    }

    public int count(int what) {
        switch (what) {
            case 0: return play.lines;
            case 1: return play.parts;
            case 2: return play.entries;
            case 3: return play.players;
            case 4: return play.tape.size;
            case 5: return play.waiting.size;
            case 6: return traced.size;
            case 7: return play.usesWithText();
            case 8: return play.partsGiven();
            default: return error(BEYOND);
        }
    }

    public int told(int k) {
        if (k < 1 || k > ERRORS) {
            return error(BEYOND);
        }
        return errors[k];
    }

    // ---- what the calls share

    private int error(int k) {
        errors[k]++;
        return LOW - k;
    }

    private static boolean isWithin(int i, int n) {
        return i >= 0 && i < n;
    }

    private boolean isPair(int a, int b) {
        return play.hasPart(a) && play.hasPart(b) && a != b;
    }

    private boolean isMissing(int sheet) {
        return sheetBits[sheet] == 0;
    }

    private static int lowestBits(int v, int bits) {
        switch (bits) {
            case 8: return (byte) v;
            case 16: return (short) v;
            default: return v;
        }
    }

    private Role newRole(int kind, int looks) {
        int number = play.parts;
        switch (kind) {
            case SPOKEN: return new Spoken(number, kind, looks);
            case MUTE: return new Mute(number, kind, looks);
            case OFF: return new Off(number, kind, looks);
            case MASKED: return new Masked(number, kind, looks);
            case KING: return new King(number, kind, looks);
            default: return new Role(number, kind, looks);
        }
    }

    /** The ERROR of shift() and helps(), or 0. */
    private int shiftError(int entry, int by) {
        if (!play.hasEntry(entry)) {
            return BEYOND;
        }
        // longs, since by may be any int
        long from = (long) play.from[entry] + by;
        long to = (long) play.to[entry] + by;
        if (from < 0 || to >= play.lines) {
            return BEYOND;
        }
        return play.isTaken(play.whose[entry], (int) from, (int) to, entry) ? STATE : 0;
    }

    /** Some numbers in a row, with room for a fixed most of them. */
    private static final class Row {
        final int[] at;
        int size = 0;

        Row(int most) {
            at = new int[most];
        }

        /** Past the most nothing is added: THE TRACE keeps its first ones so. */
        void add(int v) {
            if (size < at.length) {
                at[size] = v;
                size++;
            }
        }

        void become(Row other) {
            System.arraycopy(other.at, 0, at, 0, other.size);
            size = other.size;
        }

        boolean holds(int start, int n) {
            return start >= 0 && n >= 0 && (long) start + n <= size;
        }
    }

    /** A PART, with the BODIES that each KIND has of its own; it never changes, so images share it. */
    private static class Role {
        final int number;
        final int kind;
        final int need;
        final int age;
        final int wig;

        Role(int number, int kind, int looks) {
            this.number = number;
            this.kind = kind;
            need = looks / 1000;
            age = looks / 10 % 100;
            wig = looks % 10;
        }

        final boolean isOf(int other) {
            switch (other) {
                case SPOKEN: return this instanceof Spoken;
                case MUTE: return this instanceof Mute;
                case OFF: return this instanceof Off;
                case MASKED: return this instanceof Masked;
                case KING: return this instanceof King;
                default: return true;
            }
        }

        int speak(int x, Row traced) {
            traced.add(10);
            return x + number;
        }

        int walk(int x, Row traced) {
            traced.add(11);
            return speak(x, traced) * 2;
        }

        int die(int x, Row traced) {
            traced.add(12);
            return x - wig;
        }

        int bow(int x, Row traced) {
            traced.add(13);
            return walk(x, traced) ^ die(x, traced);
        }
    }

    private static class Spoken extends Role {
        Spoken(int number, int kind, int looks) {
            super(number, kind, looks);
        }

        int walk(int x, Row traced) {
            traced.add(20);
            return super.walk(x, traced) + die(x, traced);
        }
    }

    private static class Mute extends Role {
        Mute(int number, int kind, int looks) {
            super(number, kind, looks);
        }

        int speak(int x, Row traced) {
            traced.add(30);
            return super.speak(x, traced) - 1;
        }

        int bow(int x, Row traced) {
            traced.add(31);
            return super.bow(x + 1, traced);
        }
    }

    private static final class Off extends Spoken {
        Off(int number, int kind, int looks) {
            super(number, kind, looks);
        }

        int die(int x, Row traced) {
            traced.add(40);
            return super.die(x, traced) * 3;
        }

        int walk(int x, Row traced) {
            traced.add(41);
            return super.walk(x - wig, traced);
        }
    }

    private static final class Masked extends Mute {
        Masked(int number, int kind, int looks) {
            super(number, kind, looks);
        }

        int bow(int x, Row traced) {
            traced.add(50);
            return die(x, traced) - super.bow(x, traced);
        }
    }

    private static final class King extends Spoken {
        King(int number, int kind, int looks) {
            super(number, kind, looks);
        }

        int speak(int x, Row traced) {
            traced.add(60);
            return super.speak(x, traced) ^ 5;
        }

        int walk(int x, Row traced) {
            traced.add(61);
            return super.walk(x, traced) + speak(1, traced);
        }
    }

    /** All that an IMAGE keeps. */
    private static final class Play {
        int lines = 100;
        int parts = 0;
        int entries = 0;
        int players = 0;
        final Role[] role = new Role[MOST_PARTS];
        /** Whom THE CAST tells for each PART. */
        final int[] told = new int[MOST_PARTS];
        final int[] whose = new int[MOST_ENTRIES];
        final int[] from = new int[MOST_ENTRIES];
        final int[] to = new int[MOST_ENTRIES];
        final int[] sides = new int[MOST_ENTRIES];
        final int[] gift = new int[MOST_PLAYERS];
        final int[] age = new int[MOST_PLAYERS];
        /** The PARTS that each PLAYER knows, as bits. */
        final int[] known = new int[MOST_PLAYERS];
        final Row tape = new Row(MOST_BYTES);
        final Row waiting = new Row(MOST_WAITING);
        /** What a Reader made of the TEXT of each USE; empty without one. */
        final Row[] texts = new Row[USES];

        Play() {
            for (int use = 0; use < USES; use++) {
                texts[use] = new Row(MOST_BYTES);
            }
        }

        void become(Play other) {
            lines = other.lines;
            parts = other.parts;
            entries = other.entries;
            players = other.players;
            for (int part = 0; part < parts; part++) {
                role[part] = other.role[part];
            }
            System.arraycopy(other.told, 0, told, 0, parts);
            System.arraycopy(other.whose, 0, whose, 0, entries);
            System.arraycopy(other.from, 0, from, 0, entries);
            System.arraycopy(other.to, 0, to, 0, entries);
            System.arraycopy(other.sides, 0, sides, 0, entries);
            System.arraycopy(other.gift, 0, gift, 0, players);
            System.arraycopy(other.age, 0, age, 0, players);
            System.arraycopy(other.known, 0, known, 0, players);
            tape.become(other.tape);
            waiting.become(other.waiting);
            for (int use = 0; use < USES; use++) {
                texts[use].become(other.texts[use]);
            }
        }

        int addPart(Role added) {
            role[parts] = added;
            told[parts] = NOBODY;
            parts++;
            return parts - 1;
        }

        int addEntry(int part, int first, int last, int side) {
            whose[entries] = part;
            from[entries] = first;
            to[entries] = last;
            sides[entries] = side;
            entries++;
            return entries - 1;
        }

        int addPlayer(int hasGift, int hasAge) {
            gift[players] = hasGift;
            age[players] = hasAge;
            known[players] = 0;
            players++;
            return players - 1;
        }

        void delay(int entry, int by) {
            from[entry] += by;
            to[entry] += by;
        }

        boolean hasPart(int part) {
            return isWithin(part, parts);
        }

        boolean hasLine(int line) {
            return isWithin(line, lines);
        }

        boolean hasEntry(int entry) {
            return isWithin(entry, entries);
        }

        boolean hasPlayer(int player) {
            return isWithin(player, players);
        }

        boolean isPlayerOrNobody(int player) {
            return player == NOBODY || hasPlayer(player);
        }

        boolean isSet(int set) {
            return isWithin(set, 1 << players);
        }

        int allPlayers() {
            return (1 << players) - 1;
        }

        int allParts() {
            return (1 << parts) - 1;
        }

        boolean knows(int player, int part) {
            return (known[player] >> part & 1) != 0;
        }

        boolean covers(int entry, int line) {
            return from[entry] <= line && line <= to[entry];
        }

        /** -1 without ENTRIES. */
        int lastLine() {
            int last = -1;
            for (int e = 0; e < entries; e++) {
                last = Math.max(last, to[e]);
            }
            return last;
        }

        /** Whether a PART is on at one of these LINES in an ENTRY other than one that is left aside. */
        boolean isTaken(int part, int first, int last, int aside) {
            for (int e = 0; e < entries; e++) {
                if (e != aside && whose[e] == part && from[e] <= last && first <= to[e]) {
                    return true;
                }
            }
            return false;
        }

        int weight(int part) {
            int sum = 0;
            for (int e = 0; e < entries; e++) {
                if (whose[e] == part) {
                    sum += to[e] - from[e] + 1;
                }
            }
            return sum;
        }

        int weightOfSet(int set) {
            int sum = 0;
            for (int part = 0; part < parts; part++) {
                if ((set >> part & 1) != 0) {
                    sum += weight(part);
                }
            }
            return sum;
        }

        int entriesOf(int part) {
            int sum = 0;
            for (int e = 0; e < entries; e++) {
                if (whose[e] == part) {
                    sum++;
                }
            }
            return sum;
        }

        boolean isOnStage(int player, int line) {
            for (int e = 0; e < entries; e++) {
                if (told[whose[e]] == player && covers(e, line)) {
                    return true;
                }
            }
            return false;
        }

        /** How many PARTS but OFF ones are on at a LINE. */
        int seenOn(int line) {
            int sum = 0;
            for (int e = 0; e < entries; e++) {
                if (covers(e, line) && role[whose[e]].kind != OFF) {
                    sum++;
                }
            }
            return sum;
        }

        int usesWithText() {
            int sum = 0;
            for (int use = 0; use < USES; use++) {
                if (texts[use].size > 0) {
                    sum++;
                }
            }
            return sum;
        }

        int partsGiven() {
            int sum = 0;
            for (int part = 0; part < parts; part++) {
                if (told[part] != NOBODY) {
                    sum++;
                }
            }
            return sum;
        }
    }

    /**
     * Reads a TEXT and turns it into code that a stack works out from left to right: a NUMBER is NUMBER more than
     * it is, a NAME or a sign is its byte. No byte makes more than one code.
     */
    private static final class Reader {
        static final int NUMBER = 256;
        static final int END = -1;
        static final int COMPARED = 2;
        static final int UNIT = 5;

        final Row code = new Row(MOST_BYTES);
        private Row tape = code;
        private String names = "";
        /** Where it reads; the FAULT, if there is one. */
        int place = 0;
        private boolean faulty = false;

        /** Whether the tape is a TEXT of a USE. */
        boolean reads(Row bytes, int use) {
            tape = bytes;
            names = namesOf(use);
            place = 0;
            faulty = false;
            code.size = 0;
            readLevel(0, 0);
            return !faulty && place == tape.size;
        }

        private static String namesOf(int use) {
            switch (use) {
                case CAN: return "ganyk";
                case CHANGE: return "wvkqs";
                default: return "ganykl";
            }
        }

        /** The level whose sign this is: the lower it is, the weaker it binds. */
        private static int levelOf(int sign) {
            switch (sign) {
                case '|': return 0;
                case '&': return 1;
                case '<': case '=': case '>': return COMPARED;
                case '+': case '-': return 3;
                case '*': case '/': case '%': return 4;
                default: return -1;
            }
        }

        private int next() {
            return place < tape.size ? tape.at[place] : END;
        }

        private static boolean isDigit(int c) {
            return c >= '0' && c <= '9';
        }

        private void readLevel(int level, int open) {
            if (level >= UNIT) {
                readUnit(open);
                return;
            }
            readLevel(level + 1, open);
            int most = level == COMPARED ? 1 : MOST_BYTES;
            for (int i = 0; i < most && !faulty && levelOf(next()) == level; i++) {
                int sign = next();
                place++;
                readLevel(level + 1, open);
                code.add(sign);
            }
        }

        private void readUnit(int open) {
            int c = next();
            if (isDigit(c)) {
                readNumber();
            } else if (c != END && names.indexOf((char) c) >= 0) {
                code.add(c);
                place++;
            } else if (c == '!' && open < MOST_OPEN) {
                place++;
                readUnit(open + 1);
                code.add(c);
            } else if (c == '(' && open < MOST_OPEN) {
                place++;
                readLevel(0, open + 1);
                readClosing();
            } else {
                faulty = true;
            }
        }

        private void readNumber() {
            int value = 0;
            for (int i = 0; i < 4 && isDigit(next()); i++) {
                value = value * 10 + next() - '0';
                place++;
            }
            code.add(NUMBER + value);
        }

        private void readClosing() {
            if (faulty || next() != ')') {
                faulty = true;
            } else {
                place++;
            }
        }
    }

    /** What follows from a Play: who can, what is wished, how long a change takes, which PARTS are BARRED. */
    private static final class Stage {
        static final int UNABLE = 1;
        static final int MEET = 2;
        static final int NEAR = 3;
        static final int NOWHERE = -1;

        private final Play play;
        /** What each NAME stands for, by its letter. */
        private final int[] named = new int[26];
        private final int[] stack = new int[MOST_BYTES];
        /** The PARTS that each PART is BARRED with, as bits. */
        final int[] barred = new int[MOST_PARTS];
        int barPart = 0;
        int barOther = 0;
        int barLine = 0;

        Stage(Play play) {
            this.play = play;
        }

        boolean isAble(int player, int part) {
            Row text = play.texts[CAN];
            if (text.size == 0) {
                return play.gift[player] >= play.role[part].need;
            }
            namePlayerAndPart(player, part);
            return worthOf(text) != 0;
        }

        int wishOf(int player, int part) {
            Row text = play.texts[WISH];
            if (text.size == 0) {
                return play.gift[player];
            }
            namePlayerAndPart(player, part);
            name('l', play.weight(part));
            return held(worthOf(text), 999);
        }

        int changeOf(int from, int to, int s) {
            Row text = play.texts[CHANGE];
            Role left = play.role[from];
            Role taken = play.role[to];
            if (text.size == 0) {
                return 2 + Math.abs(left.wig - taken.wig);
            }
            name('w', left.wig);
            name('v', taken.wig);
            name('k', left.kind);
            name('q', taken.kind);
            name('s', s);
            return held(worthOf(text), 99);
        }

        private void namePlayerAndPart(int player, int part) {
            Role role = play.role[part];
            name('g', play.gift[player]);
            name('a', play.age[player]);
            name('n', role.need);
            name('y', role.age);
            name('k', role.kind);
        }

        private void name(char letter, int value) {
            named[letter - 'a'] = value;
        }

        private static int held(int value, int most) {
            return Math.max(0, Math.min(most, value));
        }

        private int worthOf(Row code) {
            int top = 0;
            for (int i = 0; i < code.size; i++) {
                int c = code.at[i];
                if (c >= Reader.NUMBER) {
                    stack[top] = c - Reader.NUMBER;
                    top++;
                } else if (c >= 'a' && c <= 'z') {
                    stack[top] = named[c - 'a'];
                    top++;
                } else if (c == '!' && top >= 1) {
                    stack[top - 1] = stack[top - 1] == 0 ? 1 : 0;
                } else if (top >= 2) {
                    top--;
                    stack[top - 1] = joined(c, stack[top - 1], stack[top]);
                }
            }
            return stack[0];
        }

        private static int joined(int sign, int a, int b) {
            switch (sign) {
                case '|': return a != 0 || b != 0 ? 1 : 0;
                case '&': return a != 0 && b != 0 ? 1 : 0;
                case '<': return a < b ? 1 : 0;
                case '=': return a == b ? 1 : 0;
                case '>': return a > b ? 1 : 0;
                case '+': return a + b;
                case '-': return a - b;
                case '*': return a * b;
                case '/': return b == 0 ? 0 : a / b;
                default: return b == 0 ? 0 : a % b;
            }
        }

        /** 0, MEET or NEAR; barLine is the LINE of that. */
        int howBarred(int a, int b) {
            if (areApart(a, b)) {
                return 0;
            }
            barLine = meetingLine(a, b);
            if (barLine != NOWHERE) {
                return MEET;
            }
            if (isOff(a) || isOff(b)) {
                return 0;
            }
            barLine = earlier(nearLine(a, b), nearLine(b, a));
            return barLine != NOWHERE ? NEAR : 0;
        }

        /** An OFF one has nothing to do with those who don't speak. */
        private boolean areApart(int a, int b) {
            return isOff(a) && !play.role[b].isOf(SPOKEN) || isOff(b) && !play.role[a].isOf(SPOKEN);
        }

        private boolean isOff(int part) {
            return play.role[part].kind == OFF;
        }

        /** Of a change from or to a MASKED one half counts. */
        private int shareOf(int a, int b) {
            return play.role[a].kind == MASKED || play.role[b].kind == MASKED ? 2 : 1;
        }

        private static int earlier(int line, int other) {
            if (line == NOWHERE || other == NOWHERE) {
                return Math.max(line, other);
            }
            return Math.min(line, other);
        }

        private int meetingLine(int a, int b) {
            int first = NOWHERE;
            for (int e = 0; e < play.entries; e++) {
                for (int f = 0; f < play.entries && play.whose[e] == a; f++) {
                    int line = Math.max(play.from[e], play.from[f]);
                    if (play.whose[f] == b && line <= Math.min(play.to[e], play.to[f])) {
                        first = earlier(first, line);
                    }
                }
            }
            return first;
        }

        /** The first LINE on which an ENTRY of b begins too soon behind one of a. */
        private int nearLine(int a, int b) {
            int across = changeOf(a, b, 0) / shareOf(a, b);
            int same = changeOf(a, b, 1) / shareOf(a, b);
            int first = NOWHERE;
            for (int e = 0; e < play.entries; e++) {
                for (int f = 0; f < play.entries && play.whose[e] == a; f++) {
                    int between = play.from[f] - play.to[e] - 1;
                    int wanted = isSameSide(e, f) ? same : across;
                    if (play.whose[f] == b && between >= 0 && between < wanted) {
                        first = earlier(first, play.from[f]);
                    }
                }
            }
            return first;
        }

        /** Whether ENTRY e goes to the side from which f comes. */
        private boolean isSameSide(int e, int f) {
            return (play.sides[e] & 1) == play.sides[f] >> 1;
        }

        void findBarred() {
            Arrays.fill(barred, 0);
            for (int a = 0; a < play.parts; a++) {
                for (int b = a + 1; b < play.parts; b++) {
                    if (howBarred(a, b) != 0) {
                        barred[a] |= 1 << b;
                        barred[b] |= 1 << a;
                    }
                }
            }
        }

        /** How THE CAST is barred first, or 0; barPart, barOther and barLine tell where. */
        int findBar() {
            for (int p = 0; p < play.parts; p++) {
                int player = play.told[p];
                if (player != NOBODY) {
                    barPart = p;
                    int how = isAble(player, p) ? findBarAbove(p, player) : UNABLE;
                    if (how != 0) {
                        return how;
                    }
                }
            }
            return 0;
        }

        private int findBarAbove(int p, int player) {
            for (int q = p + 1; q < play.parts; q++) {
                if (play.told[q] == player) {
                    barOther = q;
                    int how = howBarred(p, q);
                    if (how != 0) {
                        return how;
                    }
                }
            }
            return 0;
        }
    }

    /** Groups of PARTS and castings, over sets of PARTS as bits: 1024 at most. */
    private static final class Solver {
        /** The cost of what can't be: far above any sum. */
        static final int FAR = 100000000;

        private final Play play;
        private final Stage stage;
        final int[] groupOf = new int[MOST_PARTS];
        private final int[] inGroup = new int[MOST_PARTS];
        /** The PLAYERS of the set, the least first. */
        private final int[] team = new int[MOST_PLAYERS];
        private int teamSize = 0;
        /** What each PART costs each PLAYER who was asked; FAR, if they can't play it. */
        private final int[][] single = new int[MOST_PLAYERS][MOST_PARTS];
        /** What a set of PARTS costs, if one PLAYER plays it. */
        private final int[] cost = new int[PART_SETS];
        /** What a set of PARTS costs at least, if those of the team from the j-th on play it. */
        private final int[][] least = new int[MOST_PLAYERS][PART_SETS];
        /** By how many castings a set of PARTS is played; one of two rows of least. */
        int[] castingsOf = least[0];
        final int[] playerOf = new int[MOST_PARTS];
        int sum = 0;
        int inSome = 0;
        int inEach = 0;

        Solver(Play play, Stage stage) {
            this.play = play;
            this.stage = stage;
        }

        /** THE FEWEST of all PARTS but one (or NOBODY); groupOf tells the groups. */
        int fewestGroups(int but) {
            stage.findBarred();
            // a group for each PART always does
            for (int most = 0; most <= play.parts; most++) {
                Arrays.fill(inGroup, 0);
                if (settle(0, 0, most, but)) {
                    return most;
                }
            }
            return play.parts;
        }

        /** Whether PARTS from this one on find room in at most so many groups, of which some are used. */
        private boolean settle(int part, int used, int most, int but) {
            if (part >= play.parts) {
                return true;
            }
            if (part == but) {
                return settle(part + 1, used, most, but);
            }
            for (int g = 0; g <= used && g < most; g++) {
                if ((inGroup[g] & stage.barred[part]) == 0) {
                    inGroup[g] |= 1 << part;
                    groupOf[part] = g;
                    if (settle(part + 1, g == used ? used + 1 : used, most, but)) {
                        return true;
                    }
                    inGroup[g] &= ~(1 << part);
                }
            }
            return false;
        }

        /** Makes the team of a set and asks each of them; what is best by a way costs least. */
        private void gather(int set, int way) {
            teamSize = 0;
            for (int player = 0; player < play.players; player++) {
                if ((set >> player & 1) != 0) {
                    team[teamSize] = player;
                    teamSize++;
                    ask(player, way);
                }
            }
        }

        private void ask(int player, int way) {
            for (int part = 0; part < play.parts; part++) {
                single[player][part] = stage.isAble(player, part) ? costOf(way, player, part) : FAR;
            }
        }

        /** Fills cost for a PLAYER who was asked; stage.barred must stand. */
        private void price(int player) {
            cost[0] = 0;
            for (int part = 0; part < play.parts; part++) {
                int bit = 1 << part;
                int own = single[player][part];
                int barred = stage.barred[part];
                for (int set = 0; set < bit; set++) {
                    boolean fits = own < FAR && cost[set] < FAR && (barred & set) == 0;
                    cost[set | bit] = fits ? cost[set] + own : FAR;
                }
            }
        }

        private int costOf(int way, int player, int part) {
            switch (way) {
                case BY_WISHES: return -stage.wishOf(player, part);
                case BY_LEARNING: return play.knows(player, part) ? 0 : play.weight(part);
                case BY_GREATEST: return play.weight(part);
                default: return play.told[part] == player ? 0 : 1;
            }
        }

        /** Whether there is a casting; of THE BEST sum is the SUM and playerOf tells who plays what. */
        boolean findBest(int way, int set) {
            int all = play.allParts();
            sum = 0;
            gather(set, way);
            if (teamSize == 0) {
                return all == 0;
            }
            stage.findBarred();
            int last = teamSize - 1;
            price(team[last]);
            System.arraycopy(cost, 0, least[last], 0, all + 1);
            for (int j = last - 1; j >= 0; j--) {
                price(team[j]);
                addToTeam(way, j, all);
            }
            if (least[0][all] >= FAR) {
                return false;
            }
            sum = way == BY_WISHES ? -least[0][all] : least[0][all];
            dealOut(way, all);
            return true;
        }

        /** Fills least[j] from cost, which is of the j-th, and least[j + 1]. */
        private void addToTeam(int way, int j, int all) {
            int[] before = least[j + 1];
            int[] after = least[j];
            Arrays.fill(after, 0, all + 1, FAR);
            for (int own = 0; own <= all; own++) {
                if (cost[own] < FAR) {
                    int others = all ^ own;
                    // of the first one only what is left of all PARTS is asked for
                    int end = j == 0 ? others : 0;
                    // rest goes down through the subsets of others
                    for (int rest = others; rest >= end; rest = rest == 0 ? -1 : rest - 1 & others) {
                        if (before[rest] < FAR) {
                            int both = together(way, cost[own], before[rest]);
                            after[own | rest] = Math.min(after[own | rest], both);
                        }
                    }
                }
            }
        }

        private static int together(int way, int one, int others) {
            return way == BY_GREATEST ? Math.max(one, others) : one + others;
        }

        /** Gives each of the team in turn the PARTS that are least as bits and still lead to THE BEST. */
        private void dealOut(int way, int all) {
            int left = all;
            int budget = least[0][all];
            for (int j = 0; j < teamSize - 1; j++) {
                price(team[j]);
                int own = leastShare(way, j, left, budget);
                give(own, team[j]);
                left ^= own;
                // a greatest sum bounds each of them, other sums are used up
                budget -= way == BY_GREATEST ? 0 : cost[own];
            }
            give(left, team[teamSize - 1]);
        }

        private int leastShare(int way, int j, int left, int budget) {
            int[] others = least[j + 1];
            for (int own = 0; own < left; own++) {
                // what can't be is FAR above any budget
                if ((own & ~left) == 0 && together(way, cost[own], others[left ^ own]) <= budget) {
                    return own;
                }
            }
            return left;
        }

        private void give(int set, int player) {
            for (int part = 0; part < play.parts; part++) {
                if ((set >> part & 1) != 0) {
                    playerOf[part] = player;
                }
            }
        }

        /** Fills castingsOf for a set of PLAYERS: at most 6 to the 10th, so ints do. */
        void countCastings(int set) {
            int all = play.allParts();
            gather(set, BY_MOVED);
            stage.findBarred();
            castingsOf = least[0];
            Arrays.fill(castingsOf, 0, all + 1, 0);
            castingsOf[0] = 1;
            for (int j = 0; j < teamSize; j++) {
                price(team[j]);
                countWithOneMore(least[(j + 1) % 2], all);
            }
        }

        private void countWithOneMore(int[] after, int all) {
            Arrays.fill(after, 0, all + 1, 0);
            for (int own = 0; own <= all; own++) {
                if (cost[own] < FAR) {
                    int others = all ^ own;
                    // rest goes down through the subsets of others
                    for (int rest = others; rest >= 0; rest = rest == 0 ? -1 : rest - 1 & others) {
                        after[own | rest] += castingsOf[rest];
                    }
                }
            }
            castingsOf = after;
        }

        /** The PARTS that are LEFT OUT for the PLAYERS whose castings were counted, as bits. */
        int leftOut() {
            weighSets();
            int all = play.allParts();
            int out = all;
            for (int other = 0; other < all; other++) {
                if (castingsOf[all ^ other] > 0 && isLess(other, out)) {
                    out = other;
                }
            }
            return out;
        }

        /** Fills cost with the WEIGHT of each set of PARTS. */
        private void weighSets() {
            cost[0] = 0;
            for (int part = 0; part < play.parts; part++) {
                int bit = 1 << part;
                int own = play.weight(part);
                for (int set = 0; set < bit; set++) {
                    cost[set | bit] = cost[set] + own;
                }
            }
        }

        /** By WEIGHT, which cost tells, then by how many, then as bits. */
        private boolean isLess(int set, int other) {
            if (cost[set] != cost[other]) {
                return cost[set] < cost[other];
            }
            int more = Integer.bitCount(set) - Integer.bitCount(other);
            return more != 0 ? more < 0 : set < other;
        }

        /**
         * Whether there is a casting by a PLAYER (if that one is in) and those whose castings were counted; inSome and
         * inEach tell what that PLAYER plays in some and in each one.
         */
        boolean findShares(int player, boolean isIn) {
            int all = play.allParts();
            inSome = 0;
            if (!isIn) {
                inEach = 0;
                return castingsOf[all] > 0;
            }
            inEach = all;
            ask(player, BY_MOVED);
            price(player);
            boolean found = false;
            for (int own = 0; own <= all; own++) {
                if (cost[own] < FAR && castingsOf[all ^ own] > 0) {
                    found = true;
                    inSome |= own;
                    inEach &= own;
                }
            }
            return found;
        }
    }
}
