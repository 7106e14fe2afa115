/** Plays that several tests begin with. */
final class Plays {
    private Plays() { }

    /** So many PARTS of KIND 0, looks 0, and PLAYERS of GIFT 5, AGE 0; no ENTRIES. */
    static FivePlayers of(int parts, int players) {
        FivePlayers x = new FivePlayers();
        for (int part = 0; part < parts; part++) {
            x.part(0, 0);
        }
        for (int player = 0; player < players; player++) {
            x.player(5, 0);
        }
        return x;
    }

    /** As of(), each PART on for one LINE, ten LINES apart, so that none are BARRED. */
    static FivePlayers apart(int parts, int players) {
        FivePlayers x = of(parts, players);
        for (int part = 0; part < parts; part++) {
            x.entry(part, part * 10, part * 10, 0);
        }
        return x;
    }

    /** As of(), all PARTS on at the first ten LINES, so that all are BARRED. */
    static FivePlayers together(int parts, int players) {
        FivePlayers x = of(parts, players);
        for (int part = 0; part < parts; part++) {
            x.entry(part, 0, 9, 0);
        }
        return x;
    }

    /** PART n is of KIND n and has WIG n, without ENTRIES. */
    static FivePlayers kinds() {
        FivePlayers x = new FivePlayers();
        for (int kind = 0; kind < 6; kind++) {
            x.part(kind, kind);
        }
        return x;
    }

    /** A bit of everything: 4 PARTS, 5 ENTRIES, 3 PLAYERS, TEXTS, a TAPE, a CAST, SHEETS, an IMAGE. */
    static FivePlayers rich() {
        FivePlayers x = new FivePlayers();
        x.lines(80);
        x.part(1, 2305);
        x.part(4, 1201);
        x.part(3, 409);
        x.player(4, 30);
        x.player(2, 50);
        x.entry(0, 0, 9, 1);
        x.entry(1, 5, 12, 2);
        x.entry(2, 6, 8, 0);
        x.image();
        x.part(5, 3458);
        x.entry(3, 30, 39, 3);
        x.entry(0, 50, 55, 0);
        x.player(9, 70);
        x.know(0, 1, true);
        x.know(2, 3, true);
        x.cast(0, 2);
        x.cast(2, 1);
        take(x, 0, "g+2>n");
        take(x, 2, "g*10+l-k");
        feed(x, "w+v*s");
        x.tell(2);
        x.tell(0);
        x.tell(7);
        x.sheet(0, 8, 6);
        x.put(0, 0, 1);
        x.put(0, 3, 2);
        x.put(0, 5, -1);
        x.sheet(1, 16, 2);
        x.put(1, 1, 1);
        x.sheet(2, 8, 24);
        x.put(2, 1, 99);
        x.put(2, 23, 1);
        x.voice(2, 3, 11);
        return x;
    }

    /** As many of all as there may be. */
    static FivePlayers full() {
        FivePlayers x = new FivePlayers();
        x.lines(200);
        for (int part = 0; part < 10; part++) {
            x.part(part % 6, 1000 * part + 10 * part + part);
        }
        for (int entry = 0; entry < 40; entry++) {
            x.entry(entry % 10, entry * 5, entry * 5 + 4, entry % 4);
        }
        for (int player = 0; player < 6; player++) {
            x.player(9 - player, 99 - player);
        }
        for (int i = 0; i < 6; i++) {
            x.feed(0x2b312b312b312b31L, 8);
        }
        x.feed(0x3131, 2);
        for (int i = 0; i < 20; i++) {
            x.tell(i % 6);
        }
        for (int sheet = 0; sheet < 4; sheet++) {
            x.sheet(sheet, 32, 24);
            x.put(sheet, sheet, sheet);
        }
        return x;
    }

    static void feed(FivePlayers x, String signs) {
        for (int i = 0; i < signs.length(); i++) {
            x.feed(signs.charAt(i), 1);
        }
    }

    static int take(FivePlayers x, int use, String signs) {
        feed(x, signs);
        return x.text(use);
    }
}
