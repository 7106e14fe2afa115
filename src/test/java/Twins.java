import java.util.ArrayList;
import java.util.List;
import java.util.function.Supplier;
import java.util.function.ToLongFunction;

/**
 * Two objects that were made alike. One of them refuses a call; behind it all that can be asked must have the same
 * answers from both, but for told(), which tells one ERROR more.
 */
final class Twins {
    /** The document promises nothing behind 512 calls; the plays of Plays take some 140 of them at most. */
    private static final int MOST_READ = 370;

    private Twins() { }

    static void refuses(String call, Supplier<FivePlayers> play, int error, ToLongFunction<FivePlayers> act) {
        FivePlayers x = play.get();
        FivePlayers y = play.get();
        Due.is(call, act.applyAsLong(x), error);
        for (int k = 1; k <= 5; k++) {
            int more = error == -1000000 - k ? 1 : 0;
            Due.is("told(" + k + ") behind " + call, x.told(k), y.told(k) + more);
        }
        same(call, x, y);
    }

    /** Asks both for all there is. */
    static void same(String when, FivePlayers x, FivePlayers y) {
        compare(when, x, y, true);
    }

    /** Asks both for all but what the IMAGE has and how often image() was done. */
    static void sameButImage(String when, FivePlayers x, FivePlayers y) {
        compare(when, x, y, false);
    }

    private static void compare(String when, FivePlayers x, FivePlayers y, boolean imageToo) {
        List<String> of = new ArrayList<>();
        long[] got = all(x, of, imageToo);
        long[] want = all(y, null, imageToo);
        Due.is("calls behind " + when + " are few enough", got.length <= MOST_READ ? 1 : 0, 1);
        Due.is("answers behind " + when, got.length, want.length);
        for (int i = 0; i < got.length && i < want.length; i++) {
            if (got[i] != want[i]) {
                Due.is(of.get(i) + " behind " + when, got[i], want[i]);
            }
        }
    }

    /** All answers; what they change comes last, and of THE TAPE, SHEETS, numbers that wait shows what they hold. */
    private static long[] all(FivePlayers x, List<String> of, boolean imageToo) {
        Reading r = new Reading(x, of);
        r.counts();
        r.parts();
        r.entries();
        r.cast();
        r.trace();
        r.players();
        r.changes();
        r.waiting();
        r.tape();
        r.sheets();
        if (imageToo) {
            r.image();
        }
        return r.answers.stream().mapToLong(Long::longValue).toArray();
    }

    private static final class Reading {
        final FivePlayers x;
        final List<String> of;
        final List<Long> answers = new ArrayList<>();
        final int parts;
        final int players;

        Reading(FivePlayers x, List<String> of) {
            this.x = x;
            this.of = of;
            parts = x.count(1);
            players = x.count(3);
        }

        void add(String call, long answer) {
            answers.add(answer);
            if (of != null) {
                of.add(call);
            }
        }

        void counts() {
            for (int what = 0; what < 9; what++) {
                add("count(" + what + ")", x.count(what));
            }
        }

        void parts() {
            for (int part = 0; part < parts; part++) {
                for (int what = 0; what < 4; what++) {
                    add("partIs(" + part + ", " + what + ")", x.partIs(part, what));
                }
            }
        }

        /** All that an ENTRY has, if there are few, else what stands for it. */
        void entries() {
            int n = x.count(2);
            for (int entry = 0; entry < n; entry++) {
                for (int what = n > 10 ? 1 : 0; what < (n > 10 ? 3 : 4); what++) {
                    add("entryIs(" + entry + ", " + what + ")", x.entryIs(entry, what));
                }
            }
        }

        void cast() {
            add("bars(0)", x.bars(0));
            add("fewest()", x.fewest());
            for (int part = 0; part < parts; part++) {
                add("cast(" + part + ", -1)", x.cast(part, -1));
            }
        }

        void trace() {
            for (int i = 0; i < x.count(6); i++) {
                add("trace(" + i + ")", x.trace(i));
            }
        }

        /** GIFT, AGE, what they KNOW, and by the TEXTS of one or two PARTS whether they can and what they wish. */
        void players() {
            for (int player = 0; player < players; player++) {
                for (int part = 0; part < parts; part++) {
                    add("know(" + player + ", " + part + ")", x.know(player, part, true));
                }
                if (parts > 0) {
                    add("can(" + player + ", 0)", x.can(player, 0));
                    add("wish(" + player + ", 0)", x.wish(player, 0));
                }
            }
        }

        void changes() {
            for (int part = 1; part < parts; part++) {
                add("change(0, " + part + ", 1)", x.change(0, part, 1));
            }
        }

        void waiting() {
            add("check(0)", x.check(0));
            add("count(5)", x.count(5));
        }

        void tape() {
            add("text(1)", x.text(1));
            for (int part = 1; part < Math.min(parts, 3); part++) {
                add("change(0, " + part + ", 1) by THE TAPE", x.change(0, part, 1));
            }
            x.feed('1', 1);
            x.text(0);
            for (char c : "g*100+a".toCharArray()) {
                x.feed(c, 1);
            }
            x.text(2);
            for (int player = 0; player < players && parts > 0; player++) {
                add("GIFT and AGE of " + player, x.wish(player, 0));
            }
        }

        /** How many numbers, of which bits, and the first ones as far as they are PLAYERS. */
        void sheets() {
            for (int sheet = 0; sheet < 4; sheet++) {
                for (int n : new int[] {0, 1, 2, 3, 6, 7, 24}) {
                    add("move(" + sheet + ", " + n + ", .., 0)", x.move(sheet, n, sheet, n, 0));
                }
                add("block(" + sheet + ")", x.block(sheet));
                for (int part = 0; part < Math.min(parts, 6); part++) {
                    add("who stands in " + sheet + " for " + part, x.cast(part, -1));
                }
                add("move(" + sheet + ", 23, .., 1)", x.move(sheet, 23, sheet, 0, 1));
                add("block(" + sheet + "), the last one first", x.block(sheet));
                add("move(" + sheet + ", 0, 0, ..)", x.move(sheet, 0, 0, 0, 0));
            }
        }

        void image() {
            add("restore()", x.restore());
            for (int what = 0; what < 9; what++) {
                add("count(" + what + "), restored", x.count(what));
            }
            int n = Math.min(x.count(2), 6);
            for (int entry = 0; entry < n; entry++) {
                add("entryIs(" + entry + ", 1), restored", x.entryIs(entry, 1));
            }
            add("image()", x.image());
        }
    }
}
