import java.util.ArrayList;
import java.util.Arrays;
import java.util.List;

/**
 * The document once more, by trying all there is: what RandomTest compares FivePlayers with. It shares no way of
 * working with it: line by line instead of by entries, all castings in turn, texts split at their weakest sign.
 */
final class SlowPlayers {
    private static final int[] ABOVE = {-1, 0, 0, 1, 2, 1};
    private static final String[] NAMES = {"ganyk", "wvkqs", "ganykl"};

    private static final class Ends extends RuntimeException {
        private static final long serialVersionUID = 1L;
        final int k;

        Ends(int k) {
            this.k = k;
        }
    }

    private static final class State {
        int lines = 100;
        List<int[]> parts = new ArrayList<>();
        List<int[]> entries = new ArrayList<>();
        List<int[]> players = new ArrayList<>();
        boolean[][] knows = new boolean[6][10];
        int[] cast = new int[10];
        StringBuilder tape = new StringBuilder();
        String[] texts = new String[3];
        List<Integer> waiting = new ArrayList<>();

        State copy() {
            State c = new State();
            c.lines = lines;
            parts.forEach(p -> c.parts.add(p.clone()));
            entries.forEach(e -> c.entries.add(e.clone()));
            players.forEach(p -> c.players.add(p.clone()));
            for (int i = 0; i < 6; i++) {
                c.knows[i] = knows[i].clone();
            }
            c.cast = cast.clone();
            c.tape.append(tape);
            c.texts = texts.clone();
            c.waiting.addAll(waiting);
            return c;
        }
    }

    private State s = new State();
    private State kept = null;
    private int images = 0;
    private final List<Integer> traced = new ArrayList<>();
    private final long[][] sheets = new long[4][];
    private final int[] bits = new int[4];
    private final int[] told = new int[6];

    SlowPlayers() {
        Arrays.fill(s.cast, -1);
    }

    interface Act {
        long answer();
    }

    private long act(Act act) {
        try {
            return act.answer();
        } catch (Ends e) {
            told[e.k]++;
            return -1000000 - e.k;
        }
    }

    private static void must(boolean is, int k) {
        if (!is) {
            throw new Ends(k);
        }
    }

    private static boolean in(int i, int n) {
        return 0 <= i && i < n;
    }

    private void partIn(int p) {
        must(in(p, s.parts.size()), 1);
    }

    private void playerIn(int p) {
        must(in(p, s.players.size()), 1);
    }

    /** Calls by the place of a method in the document's face. */
    long call(int method, long w, int... a) {
        return act(() -> answer(method, w, a));
    }

    private long answer(int method, long w, int[] a) {
        switch (method) {
            case 0: return lines(a[0]);
            case 1: return part(a[0], a[1]);
            case 2: return as(a[0], a[1]);
            case 3: return partIs(a[0], a[1]);
            case 4: return entry(a[0], a[1], a[2], a[3]);
            case 5: return entryIs(a[0], a[1]);
            case 6: return shift(a[0], a[1]);
            case 7: return on(a[0]);
            case 8: return player(a[0], a[1]);
            case 9: return know(a[0], a[1], (a[2] & 1) != 0);
            case 10: playerIn(a[0]); partIn(a[1]); return can(a[0], a[1]) ? 1 : 0;
            case 11: playerIn(a[0]); partIn(a[1]); return wish(a[0], a[1]);
            case 12: return feed(w, a[0]);
            case 13: return text(a[0]);
            case 14: pair(a[0], a[1]); must(in(a[2], 2), 1); return change(a[0], a[1], a[2]);
            case 15: return two(a[0], a[1], a[2]);
            case 16: return cast(a[0], a[1]);
            case 17: return block(a[0]);
            case 18: return bars(a[0]);
            case 19: return busy(a[0]);
            case 20: return groups(-1)[0];
            case 21: partIn(a[0]); return groups(-1)[1 + a[0]];
            case 22: return crowd();
            case 23: return helps(a[0], a[1]);
            case 24: partIn(a[0]); return groups(a[0])[0];
            case 25: return best(a[0], a[1], a[2]);
            case 26: return take(a[0], a[1]);
            case 27: set(a[0]); return all(a[0], everything()).size();
            case 28: return leave(a[0], a[1]);
            case 29: return never(a[0], a[1], a[2]);
            case 30: return voice(a[0], a[1], a[2]);
            case 31: must(in(a[0], traced.size()), 2); return traced.get(a[0]);
            case 32: return sheet(a[0], a[1], a[2]);
            case 33: return put(a[0], a[1], a[2]);
            case 34: return move(a[0], a[1], a[2], a[3], a[4]);
            case 35: kept = s.copy(); return ++images;
            case 36: must(kept != null, 2); s = kept.copy(); return s.parts.size();
            case 37: must(s.waiting.size() < 20, 4); s.waiting.add(a[0]); return s.waiting.size();
            case 38: return check(a[0]);
            case 39: return count(a[0]);
            default: must(a[0] >= 1 && a[0] <= 5, 1); return told[a[0]];
        }
    }

    // ---- the play

    private long lines(int n) {
        must(10 <= n && n <= 200, 1);
        must(s.entries.stream().allMatch(e -> e[2] < n), 3);
        int was = s.lines;
        s.lines = n;
        return was;
    }

    private long part(int kind, int looks) {
        must(in(kind, 6) && in(looks, 10000), 1);
        must(s.parts.size() < 10, 4);
        s.parts.add(new int[] {kind, looks / 1000, looks % 1000 / 10, looks % 10});
        s.cast[s.parts.size() - 1] = -1;
        for (boolean[] k : s.knows) {
            k[s.parts.size() - 1] = false;
        }
        return s.parts.size() - 1;
    }

    private boolean under(int part, int kind) {
        for (int k = s.parts.get(part)[0]; k >= 0; k = ABOVE[k]) {
            if (k == kind) {
                return true;
            }
        }
        return false;
    }

    private boolean isOn(int part, int line) {
        for (int[] e : s.entries) {
            if (e[0] == part && e[1] <= line && line <= e[2]) {
                return true;
            }
        }
        return false;
    }

    private int weight(int part) {
        int n = 0;
        for (int line = 0; line < s.lines; line++) {
            n += isOn(part, line) ? 1 : 0;
        }
        return n;
    }

    private long as(int part, int kind) {
        partIn(part);
        must(in(kind, 6), 1);
        must(under(part, kind), 5);
        return weight(part);
    }

    private long partIs(int part, int what) {
        partIn(part);
        must(in(what, 6), 1);
        if (what == 4) {
            return weight(part);
        }
        return what == 5 ? s.entries.stream().filter(e -> e[0] == part).count() : s.parts.get(part)[what];
    }

    private long entry(int part, int from, int to, int sides) {
        partIn(part);
        must(in(from, s.lines) && in(to, s.lines) && from <= to && in(sides, 4), 1);
        for (int line = from; line <= to; line++) {
            must(!isOn(part, line), 3);
        }
        must(s.entries.size() < 40, 4);
        s.entries.add(new int[] {part, from, to, sides});
        return s.entries.size() - 1;
    }

    private long entryIs(int entry, int what) {
        must(in(entry, s.entries.size()) && in(what, 4), 1);
        return s.entries.get(entry)[what];
    }

    private long shift(int entry, int by) {
        must(in(entry, s.entries.size()), 1);
        int[] e = s.entries.get(entry);
        must(e[1] + (long) by >= 0 && e[2] + (long) by < s.lines, 1);
        int from = e[1];
        int to = e[2];
        e[1] = 1000;
        e[2] = 1000;
        boolean free = true;
        for (int line = from + by; line <= to + by; line++) {
            free &= !isOn(e[0], line);
        }
        e[1] = free ? from + by : from;
        e[2] = free ? to + by : to;
        must(free, 3);
        return e[1];
    }

    private long on(int line) {
        must(in(line, s.lines), 1);
        int n = 0;
        for (int part = 0; part < s.parts.size(); part++) {
            n += isOn(part, line) ? 1 : 0;
        }
        return n;
    }

    // ---- players, texts

    private long player(int gift, int age) {
        must(in(gift, 10) && in(age, 100), 1);
        must(s.players.size() < 6, 4);
        s.players.add(new int[] {gift, age});
        Arrays.fill(s.knows[s.players.size() - 1], false);
        return s.players.size() - 1;
    }

    private long know(int player, int part, boolean does) {
        playerIn(player);
        partIn(part);
        boolean was = s.knows[player][part];
        s.knows[player][part] = does;
        return was == does ? 0 : 1;
    }

    private int[] named(int player, int part) {
        int[] who = s.players.get(player);
        int[] what = s.parts.get(part);
        return new int[] {who[0], who[1], what[1], what[2], what[0], weight(part)};
    }

    private boolean can(int player, int part) {
        int[] named = named(player, part);
        return s.texts[0] == null ? named[0] >= named[2] : worth(s.texts[0], NAMES[0], named) != 0;
    }

    private int wish(int player, int part) {
        int[] named = named(player, part);
        return s.texts[2] == null ? named[0] : Math.min(999, Math.max(0, worth(s.texts[2], NAMES[2], named)));
    }

    private int change(int from, int to, int side) {
        int[] a = s.parts.get(from);
        int[] b = s.parts.get(to);
        if (s.texts[1] == null) {
            return 2 + (a[3] < b[3] ? b[3] - a[3] : a[3] - b[3]);
        }
        int[] named = {a[3], b[3], a[0], b[0], side};
        return Math.min(99, Math.max(0, worth(s.texts[1], NAMES[1], named)));
    }

    private long feed(long word, int n) {
        must(1 <= n && n <= 8, 1);
        must(s.tape.length() + n <= 50, 4);
        for (int i = 0; i < n; i++) {
            s.tape.append((char) (word & 255));
            word >>= 8;
        }
        return s.tape.length();
    }

    private long text(int use) {
        must(in(use, 3), 1);
        String t = s.tape.toString();
        s.tape.setLength(0);
        int fault = fault(t, NAMES[use]);
        if (fault >= 0) {
            return -10 - fault;
        }
        s.texts[use] = t;
        return 1;
    }

    /** Byte by byte, with what stands open; -1 if it is a text. */
    private static int fault(String t, String names) {
        StringBuilder open = new StringBuilder();
        // for each bracket that is open, and outside, whether a comparison has been seen in this B
        List<Boolean> compared = new ArrayList<>(List.of(false));
        int digits = 0;
        boolean wanted = true;
        for (int i = 0; i < t.length(); i++) {
            char c = t.charAt(i);
            int last = compared.size() - 1;
            if (!wanted && digits > 0 && digits < 4 && c >= '0' && c <= '9') {
                digits++;
                continue;
            }
            if (!wanted) {
                while (open.length() > 0 && open.charAt(open.length() - 1) == '!') {
                    open.setLength(open.length() - 1);
                }
            }
            if (wanted && (c == '!' || c == '(')) {
                if (open.length() == 5) {
                    return i;
                }
                open.append(c);
                if (c == '(') {
                    compared.add(false);
                }
            } else if (wanted && (names.indexOf(c) >= 0 || c >= '0' && c <= '9')) {
                wanted = false;
                digits = c >= '0' && c <= '9' ? 1 : 0;
            } else if (wanted) {
                return i;
            } else if (c == ')' && open.length() > 0) {
                open.setLength(open.length() - 1);
                compared.remove(last);
                digits = 0;
            } else if ("+-*/%".indexOf(c) >= 0) {
                wanted = true;
            } else if ("&|".indexOf(c) >= 0) {
                wanted = true;
                compared.set(last, false);
            } else if ("<=>".indexOf(c) >= 0 && !compared.get(last)) {
                wanted = true;
                compared.set(last, true);
            } else {
                return i;
            }
        }
        return wanted || open.indexOf("(") >= 0 ? t.length() : -1;
    }

    private static int worth(String t, String names, int[] named) {
        for (String signs : new String[] {"|", "&", "<=>", "+-", "*/%"}) {
            int deep = 0;
            for (int i = t.length() - 1; i >= 0; i--) {
                char c = t.charAt(i);
                deep += c == ')' ? 1 : c == '(' ? -1 : 0;
                if (deep == 0 && signs.indexOf(c) >= 0) {
                    int a = worth(t.substring(0, i), names, named);
                    int b = worth(t.substring(i + 1), names, named);
                    return joined(c, a, b);
                }
            }
        }
        if (t.charAt(0) == '!') {
            return worth(t.substring(1), names, named) == 0 ? 1 : 0;
        }
        if (t.charAt(0) == '(') {
            return worth(t.substring(1, t.length() - 1), names, named);
        }
        int name = names.indexOf(t.charAt(0));
        return name >= 0 ? named[name] : Integer.parseInt(t);
    }

    private static int joined(char c, int a, int b) {
        boolean is;
        switch (c) {
            case '+': return (int) ((long) a + b);
            case '-': return (int) ((long) a - b);
            case '*': return (int) ((long) a * b);
            case '/': return b == 0 ? 0 : (int) ((long) a / b);
            case '%': return b == 0 ? 0 : (int) ((long) a % b);
            case '<': is = a < b; break;
            case '>': is = a > b; break;
            case '=': is = a == b; break;
            case '&': is = a != 0 & b != 0; break;
            default: is = a != 0 | b != 0; break;
        }
        return is ? 1 : 0;
    }

    // ---- two parts, the cast

    private void pair(int a, int b) {
        partIn(a);
        partIn(b);
        must(a != b, 1);
    }

    /** How they are, and on which line. */
    private int[] how(int a, int b) {
        int ka = s.parts.get(a)[0];
        int kb = s.parts.get(b)[0];
        if (ka == 3 && !under(b, 1) || kb == 3 && !under(a, 1)) {
            return new int[] {0, -1};
        }
        for (int line = 0; line < s.lines; line++) {
            if (isOn(a, line) && isOn(b, line)) {
                return new int[] {2, line};
            }
        }
        for (int line = 0; line < s.lines; line++) {
            if (tooSoon(a, b, line) || tooSoon(b, a, line)) {
                return new int[] {3, line};
            }
        }
        return new int[] {0, -1};
    }

    /** Whether b comes on at a line too soon behind a. */
    private boolean tooSoon(int a, int b, int line) {
        for (int[] f : s.entries) {
            if (f[0] != b || f[1] != line) {
                continue;
            }
            for (int[] e : s.entries) {
                if (e[0] == a && e[2] < line) {
                    int between = 0;
                    for (int l = e[2] + 1; l < line; l++) {
                        between++;
                    }
                    int takes = change(a, b, e[3] % 2 == f[3] / 2 ? 1 : 0);
                    int ka = s.parts.get(a)[0];
                    int kb = s.parts.get(b)[0];
                    if (ka == 4 || kb == 4) {
                        takes /= 2;
                    }
                    if (ka == 3 || kb == 3) {
                        takes = 0;
                    }
                    if (between < takes) {
                        return true;
                    }
                }
            }
        }
        return false;
    }

    private long two(int a, int b, int what) {
        pair(a, b);
        must(in(what, 2), 1);
        int[] how = how(a, b);
        must(what == 0 || how[0] != 0, 2);
        return how[what];
    }

    private long cast(int part, int player) {
        partIn(part);
        must(player == -1 || in(player, s.players.size()), 1);
        int was = s.cast[part];
        s.cast[part] = player;
        return was;
    }

    private long block(int sheet) {
        must(in(sheet, 4), 1);
        must(sheets[sheet] != null, 2);
        int[] next = s.cast.clone();
        int n = 0;
        while (n < s.parts.size() && n < sheets[sheet].length) {
            next[n] = (int) sheets[sheet][n];
            must(next[n] == -1 || in(next[n], s.players.size()), 5);
            n++;
        }
        s.cast = next;
        return n;
    }

    private long bars(int what) {
        must(in(what, 4), 1);
        int[] first = firstBar();
        must(what == 0 || what < first.length, 2);
        return first[what];
    }

    private int[] firstBar() {
        for (int p = 0; p < s.parts.size(); p++) {
            if (s.cast[p] >= 0 && !can(s.cast[p], p)) {
                return new int[] {1, p};
            }
            for (int q = p + 1; q < s.parts.size() && s.cast[p] >= 0; q++) {
                if (s.cast[q] == s.cast[p] && how(p, q)[0] != 0) {
                    return new int[] {how(p, q)[0], p, q, how(p, q)[1]};
                }
            }
        }
        return new int[] {0};
    }

    private long busy(int player) {
        playerIn(player);
        int n = 0;
        for (int line = 0; line < s.lines; line++) {
            boolean is = false;
            for (int part = 0; part < s.parts.size(); part++) {
                is |= s.cast[part] == player && isOn(part, line);
            }
            n += is ? 1 : 0;
        }
        return n;
    }

    // ---- the fewest

    private boolean[][] barred() {
        int n = s.parts.size();
        boolean[][] is = new boolean[n][n];
        for (int a = 0; a < n; a++) {
            for (int b = 0; b < a; b++) {
                is[a][b] = how(a, b)[0] != 0;
                is[b][a] = is[a][b];
            }
        }
        return is;
    }

    /** How many groups, then the group of each part; the one left out is in none. */
    private int[] groups(int but) {
        int[] best = new int[s.parts.size() + 1];
        best[0] = 99;
        group(barred(), but, new int[s.parts.size()], 0, 0, best);
        return best;
    }

    private void group(boolean[][] barred, int but, int[] groups, int part, int used, int[] best) {
        if (part == groups.length) {
            if (used < best[0]) {
                best[0] = used;
                System.arraycopy(groups, 0, best, 1, groups.length);
            }
            return;
        }
        if (part == but) {
            groups[part] = -1;
            group(barred, but, groups, part + 1, used, best);
            return;
        }
        for (int g = 0; g <= used; g++) {
            boolean free = true;
            for (int p = 0; p < part; p++) {
                free &= groups[p] != g || !barred[p][part];
            }
            if (free) {
                groups[part] = g;
                group(barred, but, groups, part + 1, Math.max(used, g + 1), best);
            }
        }
    }

    private long crowd() {
        int most = 0;
        for (int line = 0; line < s.lines; line++) {
            int n = 0;
            for (int part = 0; part < s.parts.size(); part++) {
                n += s.parts.get(part)[0] != 3 && isOn(part, line) ? 1 : 0;
            }
            most = Math.max(most, n);
        }
        return most;
    }

    private long helps(int entry, int by) {
        State was = s.copy();
        shift(entry, by);
        int n = groups(-1)[0];
        s = was;
        return n;
    }

    // ---- castings

    private void set(int players) {
        must(in(players, 1 << s.players.size()), 1);
    }

    private int everything() {
        return (1 << s.parts.size()) - 1;
    }

    /** All castings of some parts by a set; of the other parts nobody is told. */
    private List<int[]> all(int players, int parts) {
        return all(players, parts, barred());
    }

    private List<int[]> all(int players, int parts, boolean[][] barred) {
        int n = s.parts.size();
        boolean[][] can = new boolean[6][n];
        for (int player = 0; player < s.players.size(); player++) {
            for (int part = 0; part < n; part++) {
                can[player][part] = (players >> player & 1) != 0 && can(player, part);
            }
        }
        List<int[]> found = new ArrayList<>();
        all(can, barred, parts, new int[n], 0, found);
        return found;
    }

    private void all(boolean[][] can, boolean[][] barred, int parts, int[] who, int part, List<int[]> found) {
        if (part == who.length) {
            found.add(who.clone());
            return;
        }
        if ((parts >> part & 1) == 0) {
            who[part] = -1;
            all(can, barred, parts, who, part + 1, found);
            return;
        }
        for (int player = 0; player < s.players.size(); player++) {
            boolean free = can[player][part];
            for (int p = 0; p < part; p++) {
                free &= who[p] != player || !barred[p][part];
            }
            if (free) {
                who[part] = player;
                all(can, barred, parts, who, part + 1, found);
            }
        }
    }

    private int sum(int way, int[] who, int[] weights, int[][] wishes) {
        int sum = 0;
        int[] loads = new int[6];
        for (int part = 0; part < who.length; part++) {
            loads[who[part]] += weights[part];
            sum += way == 0 ? wishes[who[part]][part]
                    : way == 1 ? (s.knows[who[part]][part] ? 0 : weights[part])
                    : s.cast[part] == who[part] ? 0 : 1;
        }
        return way == 2 ? Arrays.stream(loads).max().getAsInt() : sum;
    }

    private static long asBits(int[] who) {
        long all = 0;
        for (int player = 0; player < 6; player++) {
            int set = 0;
            for (int part = 0; part < who.length; part++) {
                set |= who[part] == player ? 1 << part : 0;
            }
            all = all * 1024 + set;
        }
        return all;
    }

    /** The sum, then who plays each part. */
    private int[] theBest(int way, int players) {
        int[] weights = new int[s.parts.size()];
        int[][] wishes = new int[6][s.parts.size()];
        for (int part = 0; part < weights.length; part++) {
            weights[part] = weight(part);
            for (int player = 0; player < s.players.size(); player++) {
                wishes[player][part] = wish(player, part);
            }
        }
        int[] best = null;
        int least = 0;
        for (int[] who : all(players, everything())) {
            int sum = sum(way, who, weights, wishes) * (way == 0 ? -1 : 1);
            if (best == null || sum < least || sum == least && asBits(who) < asBits(best)) {
                best = who;
                least = sum;
            }
        }
        must(best != null, 2);
        int[] both = new int[best.length + 1];
        both[0] = way == 0 ? -least : least;
        System.arraycopy(best, 0, both, 1, best.length);
        return both;
    }

    private long best(int way, int players, int what) {
        must(in(way, 4), 1);
        set(players);
        must(-1 <= what && what < s.parts.size(), 1);
        return theBest(way, players)[1 + what];
    }

    private long take(int way, int players) {
        must(in(way, 4), 1);
        set(players);
        int[] best = theBest(way, players);
        System.arraycopy(best, 1, s.cast, 0, best.length - 1);
        return best[0];
    }

    private long leave(int players, int what) {
        set(players);
        must(in(what, 2), 1);
        int best = -1;
        boolean[][] barred = barred();
        int[] single = new int[s.parts.size()];
        for (int part = 0; part < single.length; part++) {
            single[part] = weight(part);
        }
        int[] weights = new int[1 << s.parts.size()];
        for (int out = 0; out <= everything(); out++) {
            for (int part = 0; part < s.parts.size(); part++) {
                weights[out] += (out >> part & 1) != 0 ? single[part] : 0;
            }
            boolean better = best < 0 || weights[out] < weights[best]
                    || weights[out] == weights[best] && Integer.bitCount(out) < Integer.bitCount(best);
            if (better && !all(players, everything() & ~out, barred).isEmpty()) {
                best = out;
            }
        }
        return what == 0 ? weights[best] : best;
    }

    private long never(int players, int player, int what) {
        set(players);
        playerIn(player);
        must(in(what, 2), 1);
        List<int[]> all = all(players, everything());
        must(!all.isEmpty(), 2);
        int parts = 0;
        for (int part = 0; part < s.parts.size(); part++) {
            int p = part;
            boolean is = what == 0 ? all.stream().noneMatch(who -> who[p] == player)
                    : all.stream().allMatch(who -> who[p] == player);
            parts |= is ? 1 << part : 0;
        }
        return parts;
    }

    // ---- voices, sheets, images, what is told

    private long voice(int part, int act, int x) {
        partIn(part);
        must(in(act, 4), 1);
        traced.clear();
        return voice(part, s.parts.get(part)[0], act, x);
    }

    private static final int[][] BODIES = {{10, 11, 12, 13}, {0, 20, 0, 0}, {30, 0, 0, 31}, {0, 41, 40, 0},
        {0, 0, 0, 50}, {60, 61, 0, 0}};

    /** The body of a kind, or of the next above that has one. */
    private int voice(int part, int from, int act, int x) {
        int kind = from;
        while (BODIES[kind][act] == 0) {
            kind = ABOVE[kind];
        }
        int body = BODIES[kind][act];
        if (traced.size() < 40) {
            traced.add(body);
        }
        int own = s.parts.get(part)[0];
        int up = ABOVE[kind];
        int w = s.parts.get(part)[3];
        int first;
        switch (body) {
            case 10: return x + part;
            case 11: return 2 * voice(part, own, 0, x);
            case 12: return x - w;
            case 13: first = voice(part, own, 1, x); return first ^ voice(part, own, 2, x);
            case 20: first = voice(part, up, 1, x); return first + voice(part, own, 2, x);
            case 30: return voice(part, up, 0, x) - 1;
            case 31: return voice(part, up, 3, x + 1);
            case 40: return 3 * voice(part, up, 2, x);
            case 41: return voice(part, up, 1, x - w);
            case 50: first = voice(part, own, 2, x); return first - voice(part, up, 3, x);
            case 60: return voice(part, up, 0, x) ^ 5;
            default: first = voice(part, up, 1, x); return first + voice(part, own, 0, 1);
        }
    }

    private long sheet(int sheet, int of, int n) {
        must(in(sheet, 4) && (of == 0 || of == 8 || of == 16 || of == 32), 1);
        if (of == 0) {
            sheets[sheet] = null;
            return 1;
        }
        must(n >= 0, 3);
        must(n <= 24, 1);
        sheets[sheet] = new long[n];
        bits[sheet] = of;
        return 1;
    }

    private long put(int sheet, int i, int v) {
        must(in(sheet, 4), 1);
        must(sheets[sheet] != null, 2);
        must(in(i, sheets[sheet].length), 1);
        long range = 1L << bits[sheet];
        long low = Math.floorMod((long) v, range);
        sheets[sheet][i] = low >= range / 2 ? low - range : low;
        return 1;
    }

    private long move(int sheet, int i, int other, int j, int n) {
        must(in(sheet, 4) && in(other, 4), 1);
        must(sheets[sheet] != null && sheets[other] != null, 2);
        must(bits[sheet] == bits[other], 5);
        must(n >= 0 && i >= 0 && j >= 0, 1);
        must(i <= sheets[sheet].length - n && j <= sheets[other].length - n, 1);
        long[] were = sheets[sheet].clone();
        for (int k = 0; k < n; k++) {
            sheets[other][j + k] = were[i + k];
        }
        return n;
    }

    private long check(int way) {
        List<Integer> numbers = new ArrayList<>(s.waiting);
        s.waiting.clear();
        must(in(way, 4), 1);
        int[] best = theBest(way, (1 << s.players.size()) - 1);
        for (int i = 0; i < numbers.size(); i++) {
            if (i + 1 >= best.length || numbers.get(i) != best[i + 1]) {
                return 1 + i;
            }
        }
        return 0;
    }

    private long count(int what) {
        must(in(what, 9), 1);
        int cast = 0;
        for (int part = 0; part < s.parts.size(); part++) {
            cast += s.cast[part] >= 0 ? 1 : 0;
        }
        int uses = 0;
        for (String t : s.texts) {
            uses += t != null ? 1 : 0;
        }
        return new int[] {s.lines, s.parts.size(), s.entries.size(), s.players.size(), s.tape.length(),
            s.waiting.size(), traced.size(), uses, cast}[what];
    }
}
