/** Promises 14 to 16 and the TEXTS of term 2, sentence by sentence: feed, text, change. */
final class TextEdges {
    private static final String[] NAMES = {"ganyk", "wvkqs", "ganykl"};
    private static final String SIGNS = "|&<=>+-*/%";

    private TextEdges() { }

    static void run() {
        feedBytes();
        feedBeyond();
        feedFull();
        feedFullKeeps();
        textTakes();
        textFaulty();
        textBeyond();
        textEmpty();
        textUses();
        firstBytes();
        secondBytes();
        bytesBehindName();
        numbers();
        compared();
        open();
        openMixed();
        tooEarly();
        fiftyBytes();
        binding();
        byZero();
        wrapping();
        truths();
        changeWithout();
        changeNames();
        changeHeld();
        changeAsTold();
        changeBeyond();
    }

    private static void fault(int use, String text, int place) {
        FivePlayers x = new FivePlayers();
        Plays.feed(x, text);
        Due.is("text(" + use + ") of " + text, x.text(use), -10 - place);
        Due.is("count(7) behind " + text, x.count(7), 0);
        Due.is("count(4) behind " + text, x.count(4), 0);
    }

    private static void right(int use, String text) {
        FivePlayers x = new FivePlayers();
        Plays.feed(x, text);
        Due.is("text(" + use + ") of " + text, x.text(use), 1);
        Due.is("count(7) behind " + text, x.count(7), 1);
        Due.is("count(4) behind " + text, x.count(4), 0);
    }

    /** Whether a text without NAMES is true; WISH would hold it within 0 .. 999. */
    private static void isTrue(String text) {
        FivePlayers x = Plays.of(1, 1);
        Due.is("text(0) of " + text, Due.text(x, 0, text), 1);
        Due.is("can(0, 0) by " + text, x.can(0, 0), 1);
    }

    private static void worth(String text, int due) {
        FivePlayers x = Plays.of(1, 1);
        Due.is("text(2) of " + text, Due.text(x, 2, text), 1);
        Due.is("wish(0, 0) by " + text, x.wish(0, 0), due);
    }

    // ---- promise 14

    private static void feedBytes() {
        Due.promise(14, "The n lowest bytes (1 .. 8) of a word, the lowest first, come to THE TAPE: how many there are");
        // "0+1+2+3g" as a word: each n takes as much of it
        long word = 0x67332b322b312b30L;
        int[] due = {1, -12, 1, -14, 1, -16, 1, -17};
        for (int n = 1; n <= 8; n++) {
            FivePlayers x = new FivePlayers();
            Due.is("feed(word, " + n + ")", x.feed(word, n), n);
            Due.is("count(4)", x.count(4), n);
            Due.is("text(2) of " + n, x.text(2), due[n - 1]);
        }
        FivePlayers y = Plays.of(1, 1);
        Due.is("feed(-1 .. '7', 1)", y.feed(-256L | '7', 1), 1);
        Due.is("feed of + and 5", y.feed(0x352bL, 2), 3);
        Due.is("text(2)", y.text(2), 1);
        Due.is("7+5", y.wish(0, 0), 12);
        // a highest byte above 127 comes as it is
        Due.is("feed, 8 bytes", y.feed(0xe7312b312b312b31L, 8), 8);
        Due.is("text(2)", y.text(2), -17);
    }

    private static void feedBeyond() {
        Due.promise(14, "BEYOND");
        FivePlayers x = new FivePlayers();
        Due.outside("feed, n", 1, 8, Due.BEYOND, n -> x.feed('1', n));
        Due.is("count(4)", x.count(4), 0);
        Due.is("feed(min, 8)", x.feed(Long.MIN_VALUE, 8), 8);
        Due.is("feed(max, 1)", x.feed(Long.MAX_VALUE, 1), 9);
    }

    private static void feedFull() {
        Due.promise(14, "FULL");
        for (int n = 1; n <= 8; n++) {
            FivePlayers x = new FivePlayers();
            for (int i = 0; i < 50 - n; i++) {
                x.feed('1', 1);
            }
            if (n < 8) {
                Due.is("feed, one too many at " + (50 - n), x.feed(0, n + 1), Due.FULL);
            }
            Due.is("feed, n 9 at " + (50 - n), x.feed(0, 9), Due.BEYOND);
            Due.is("feed, " + n + " at " + (50 - n), x.feed(0, n), 50);
            Due.is("feed, 1 at 50", x.feed(0, 1), Due.FULL);
            Due.is("feed, 8 at 50", x.feed(0, 8), Due.FULL);
            Due.is("feed, 0 at 50", x.feed(0, 0), Due.BEYOND);
            Due.is("feed, the greatest n at 50", x.feed(0, Due.MAX), Due.BEYOND);
            Due.is("count(4)", x.count(4), 50);
        }
    }

    private static void feedFullKeeps() {
        Due.promise(14, "FULL");
        FivePlayers x = Plays.of(1, 1);
        for (int i = 0; i < 45; i++) {
            x.feed(i % 2 == 0 ? '1' : '+', 1);
        }
        Due.is("feed, 8 at 45", x.feed(0x2b312b312b312b31L, 8), Due.FULL);
        Due.is("text(2), nothing of it came", x.text(2), 1);
        Due.is("23 times 1", x.wish(0, 0), 23);
    }

    // ---- promise 15

    private static void textTakes() {
        Due.promise(15, "THE TAPE, which is empty then, is the TEXT of a USE (in place of one ahead): 1");
        FivePlayers x = Plays.of(1, 1);
        Plays.feed(x, "7");
        Due.is("text(2)", x.text(2), 1);
        Due.is("count(4)", x.count(4), 0);
        Due.is("wish", x.wish(0, 0), 7);
        Plays.feed(x, "8+1");
        Due.is("text(2), another one", x.text(2), 1);
        Due.is("wish, by the other one", x.wish(0, 0), 9);
        Due.is("count(7)", x.count(7), 1);
    }

    private static void textFaulty() {
        Due.promise(15, "-10 less its FAULT (the one ahead stays; THE TAPE is empty, too)");
        FivePlayers x = Plays.of(1, 1);
        Due.is("a fault, none ahead", Due.text(x, 2, "7+"), -12);
        Due.is("count(4)", x.count(4), 0);
        Due.is("count(7)", x.count(7), 0);
        Due.is("wish, as without", x.wish(0, 0), 5);
        Due.is("a text", Due.text(x, 2, "7"), 1);
        Due.is("a fault", Due.text(x, 2, "8+1)"), -13);
        Due.is("count(4)", x.count(4), 0);
        Due.is("wish, by the one ahead", x.wish(0, 0), 7);
        Due.is("told(1)", x.told(1), 0);
    }

    private static void textBeyond() {
        Due.promise(15, "BEYOND (THE TAPE stays)");
        FivePlayers x = Plays.of(1, 1);
        Plays.feed(x, "7+1");
        Due.outside("text, use", 0, 2, Due.BEYOND, x::text);
        Due.is("count(4)", x.count(4), 3);
        Due.is("text(2), as it was", x.text(2), 1);
        Due.is("wish", x.wish(0, 0), 8);
        Due.is("no such USE, and no TEXT", x.text(3), Due.BEYOND);
    }

    private static void textEmpty() {
        Due.term(15, "how many there are, if it ends too early");
        FivePlayers x = Plays.of(1, 1);
        for (int use = 0; use < 3; use++) {
            Due.is("text(" + use + ") of nothing", x.text(use), -10);
        }
        Due.text(x, 2, "7");
        Due.is("text(2) of nothing", x.text(2), -10);
        Due.is("wish, by the one ahead", x.wish(0, 0), 7);
    }

    private static void textUses() {
        Due.term(15, "One TEXT for each USE");
        FivePlayers x = Plays.of(2, 1);
        Due.is("count(7)", x.count(7), 0);
        Due.is("text(1)", Due.text(x, 1, "33"), 1);
        Due.is("count(7)", x.count(7), 1);
        Due.is("can, as without", x.can(0, 0), 1);
        Due.is("wish, as without", x.wish(0, 0), 5);
        Due.is("change", x.change(0, 1, 0), 33);
        Due.is("text(0)", Due.text(x, 0, "0"), 1);
        Due.is("text(2)", Due.text(x, 2, "44"), 1);
        Due.is("count(7)", x.count(7), 3);
        Due.is("can", x.can(0, 0), 0);
        Due.is("wish", x.wish(0, 0), 44);
        Due.is("change", x.change(0, 1, 0), 33);
    }

    // ---- promise 15: FAULTS

    private static boolean isDigit(int c) {
        return c >= '0' && c <= '9';
    }

    private static void firstBytes() {
        Due.term(15, "Q: a NUMBER of 1 to 4 digits, a NAME, ! Q, ( T ). No blanks.");
        for (int use = 0; use < 3; use++) {
            FivePlayers x = new FivePlayers();
            for (int c = 0; c < 256; c++) {
                int due = c == '!' || c == '(' ? -11 : isDigit(c) || NAMES[use].indexOf(c) >= 0 ? 1 : -10;
                x = c % 128 == 0 ? new FivePlayers() : x;
                x.feed(c, 1);
                Due.is("text(" + use + ") of byte " + c, x.text(use), due);
            }
        }
    }

    private static void secondBytes() {
        Due.term(15, "FAULT: the place of the first byte with which no TEXT goes on");
        for (int use = 0; use < 3; use++) {
            FivePlayers x = new FivePlayers();
            for (int c = 0; c < 256; c++) {
                int due = isDigit(c) ? 1 : SIGNS.indexOf(c) >= 0 ? -12 : -11;
                x = c % 128 == 0 ? new FivePlayers() : x;
                x.feed('1' + 256 * c, 2);
                Due.is("text(" + use + ") of 1 and byte " + c, x.text(use), due);
            }
        }
    }

    private static void bytesBehindName() {
        Due.term(15, "FAULT: the place of the first byte with which no TEXT goes on");
        for (int use = 0; use < 3; use++) {
            FivePlayers x = new FivePlayers();
            for (int c = 0; c < 256; c++) {
                int due = c == ')' ? 1 : SIGNS.indexOf(c) >= 0 ? -13 : -12;
                x = c % 128 == 0 ? new FivePlayers() : x;
                x.feed('(' + 256 * 'k' + 65536 * c, 3);
                Due.is("text(" + use + ") of (k and byte " + c, x.text(use), due);
            }
        }
    }

    private static void numbers() {
        Due.term(15, "a NUMBER of 1 to 4 digits");
        right(0, "0");
        right(0, "9999");
        right(0, "0000");
        fault(0, "00000", 4);
        fault(0, "12345", 4);
        fault(0, "1234567", 4);
        fault(0, "1+12345", 6);
        fault(0, "(1234)5", 6);
        right(0, "1234+5678");
        fault(0, "1234g", 4);
        fault(0, "g1", 1);
        fault(0, "1 ", 1);
        fault(0, "-1", 0);
        worth("0007", 7);
        worth("0999", 999);
        worth("9999-9001", 998);
    }

    private static void compared() {
        Due.term(15, "B: S, or S < S, S = S, S > S.");
        for (char a : "<=>".toCharArray()) {
            right(0, "1" + a + "2");
            fault(0, "1" + a, 2);
            fault(0, a + "1", 0);
            for (char b : "<=>".toCharArray()) {
                fault(0, "1" + a + "2" + b + "3", 3);
                fault(0, "1" + a + b + "2", 2);
                fault(0, "(1" + a + "2" + b + "3)", 4);
                right(0, "(1" + a + "2)" + b + "3");
                right(0, "1" + a + "(2" + b + "3)");
                right(0, "1" + a + "2&3" + b + "4");
                right(0, "1" + a + "2|3" + b + "4");
                fault(0, "1" + a + "2+3*4" + b + "5", 7);
            }
        }
    }

    private static void open() {
        Due.term(15, "At most 5 of ! and ( are open at once.");
        for (int set = 0; set < 32; set++) {
            StringBuilder opens = new StringBuilder();
            StringBuilder closes = new StringBuilder();
            for (int i = 0; i < 5; i++) {
                opens.append((set >> i & 1) != 0 ? '!' : '(');
                closes.append((set >> i & 1) != 0 ? "" : ")");
            }
            right(0, opens + "1" + closes);
            fault(0, opens + "!1" + closes, 5);
            fault(0, opens + "(1)" + closes, 5);
            fault(0, opens + "", 5);
            // a ! that stands innermost is open no more behind its Q
            if (set >> 4 != 0) {
                right(0, opens + "1+!1" + closes);
            } else {
                fault(0, opens + "1+!1" + closes, 7);
            }
        }
    }

    private static void openMixed() {
        Due.term(15, "At most 5 of ! and ( are open at once.");
        // behind its Q a ! isn't open any more
        right(0, "!!!!!1+!!!!!1");
        right(0, "(((((1)))))+(((((1)))))");
        right(0, "((((!1+!1+!1))))");
        right(0, "((((!1+(1)&!1))))");
        fault(0, "((((!1+!!1))))", 8);
        fault(0, "((((!1+!(1)))))", 8);
        right(0, "!(!(!1))");
        fault(0, "!(!(!(1)))", 5);
        right(0, "!(!(!1)+!(!1))");
        fault(0, "!(!(!1)+!(!!1))", 11);
    }

    private static void tooEarly() {
        Due.term(15, "how many there are, if it ends too early");
        for (char sign : SIGNS.toCharArray()) {
            fault(0, "1" + sign, 2);
            fault(0, "1" + sign + sign + "1", 2);
            fault(0, "" + sign, 0);
            right(0, "1" + sign + "1");
        }
        fault(0, "!", 1);
        fault(0, "(", 1);
        fault(0, "(1", 2);
        fault(0, "(1+2", 4);
        fault(0, "((1)", 4);
        fault(0, "()", 1);
        fault(0, ")", 0);
        fault(0, "1)", 1);
        fault(0, "(1))", 3);
        fault(0, "!)", 1);
    }

    private static void fiftyBytes() {
        Due.term(15, "THE TAPE (bytes, at most 50)");
        String half = "1+1+1+1+1+1+1+1+1+1+1+1+1";
        right(0, half + "+" + half.substring(2) + "1");
        fault(0, half + "+" + half.substring(2) + "+", 50);
        fault(0, half + "+" + half.substring(2) + " ", 49);
        fault(0, half + "+" + half.substring(2) + "(", 49);
        right(2, "((g+a+n+y+k+l))*((g+a+n+y+k+l))*((g+a+n+y+k+l))*11");
        right(0, "!!!!!1*!!!!!1*!!!!!1*!!!!!1*!!!!!1*!!!!!1*!!!!!111");
        // many numbers wait for their signs at once
        worth("0|1&2=1+1*(0|1&2=1+1*(0|1&2=1+1*(0|1&8=1+1*(7))))", 1);
        worth("0|1&2=1+1*(0|1&2=1+1*(0|1&2=1+1*(0|1&8=1+1*(6))))", 0);
    }

    // ---- promise 15: what TEXTS are worth

    private static void binding() {
        Due.term(15, "T: A { | A }. A: B { & B }.");
        worth("2+3*4", 14);
        worth("2*3+4", 10);
        worth("20-3-4", 13);
        worth("100/7/2", 7);
        worth("100/7*2", 28);
        worth("100%7*2", 4);
        worth("2*100%7", 4);
        worth("1+1<3", 1);
        worth("3<1+1", 0);
        worth("1<2&3<4", 1);
        worth("1|1&0", 1);
        worth("0&0|1", 1);
        worth("0&(0|1)", 0);
        worth("!1+5", 5);
        worth("!0*5", 5);
        worth("!(1-1)", 1);
        worth("!5=0", 1);
    }

    private static void byZero() {
        Due.term(15, "/ cut, % the rest that it leaves, both by 0 are 0");
        worth("7/0", 0);
        worth("7%0", 0);
        worth("5+7/0", 5);
        worth("5+7%0", 5);
        worth("0/0", 0);
        worth("7/(1-1)+3", 3);
        worth("7/2", 3);
        worth("10+(0-7)/2", 7);
        worth("10+7/(0-2)", 7);
        worth("7%4", 3);
        worth("10+(0-7)%4", 7);
        worth("10+7%(0-4)", 13);
        worth("10+(0-7)%(0-4)", 7);
        worth("1|7/0", 1);
    }

    private static void wrapping() {
        Due.term(15, "Ints that wrap");
        // 8192 * 4096 * 64 is the least int
        isTrue("8192*4096*64<0");
        isTrue("8192*4096*64-1>0");
        isTrue("8192*4096*64-1+1<0");
        isTrue("8192*4096*128=0");
        isTrue("0-8192*4096*64=8192*4096*64");
        isTrue("8192*4096*64/(0-1)=8192*4096*64");
        isTrue("8192*4096*64%(0-1)=0");
        isTrue("(8192*4096*64-1)*2=0-2");
    }

    private static void truths() {
        Due.term(15, "| & < = > ! are 1 or 0, what is not 0 being true");
        worth("7|0", 1);
        worth("0|7", 1);
        worth("7|7", 1);
        worth("0|0", 0);
        worth("7&7", 1);
        worth("7&0", 0);
        worth("0&7", 0);
        worth("2&4", 1);
        worth("0-7&1", 1);
        worth("0|0-7", 1);
        worth("!7", 0);
        worth("!0", 1);
        worth("!!7", 1);
        worth("!(0-7)", 0);
        worth("6<7", 1);
        worth("7<7", 0);
        worth("7=7", 1);
        worth("6=7", 0);
        worth("7>7", 0);
        worth("7>6", 1);
        worth("8&8", 1);
        // what isn't so is 0, not less
        worth("5+(0|0)", 5);
        worth("5+(7&0)", 5);
        worth("5+(7<7)", 5);
        worth("5+(6=7)", 5);
        worth("5+(7>7)", 5);
        worth("5+!7", 5);
        worth("5+(1<2)", 6);
    }

    // ---- promise 16

    private static void changeWithout() {
        Due.term(16, "Without: 2, and the difference of WIGS");
        FivePlayers x = new FivePlayers();
        for (int wig = 0; wig < 10; wig++) {
            x.part(wig % 6, wig);
        }
        for (int a = 0; a < 10; a++) {
            for (int b = 0; b < 10; b++) {
                Due.is("change(" + a + ", " + b + ", 0)", x.change(a, b, 0), a == b ? Due.BEYOND : 2 + Math.abs(a - b));
            }
        }
        Due.is("change(9, 0, 1)", x.change(9, 0, 1), 11);
    }

    private static void changeNames() {
        Due.term(16, "w WIG of the one that is left, v of the other one, k, q their KINDS, s 1");
        FivePlayers x = new FivePlayers();
        x.part(5, 8);
        x.part(2, 3);
        String[] texts = {"w", "v", "k", "q", "s"};
        int[][] due = {{8, 8, 3, 3}, {3, 3, 8, 8}, {5, 5, 2, 2}, {2, 2, 5, 5}, {0, 1, 0, 1}};
        for (int i = 0; i < texts.length; i++) {
            Due.is("text(1) of " + texts[i], Due.text(x, 1, texts[i]), 1);
            for (int j = 0; j < 4; j++) {
                Due.is("change by " + texts[i], x.change(j / 2, 1 - j / 2, j % 2), due[i][j]);
            }
        }
    }

    private static void changeHeld() {
        Due.term(16, "1 CHANGE (LINES from one PART to another one, held within 0 .. 99)");
        String[] texts = {"0", "0-1", "1", "98", "99", "100", "9999", "8192*4096*64", "8192*4096*64-1"};
        int[] due = {0, 0, 1, 98, 99, 99, 99, 0, 99};
        FivePlayers x = Plays.of(2, 0);
        for (int i = 0; i < texts.length; i++) {
            Due.is("text(1) of " + texts[i], Due.text(x, 1, texts[i]), 1);
            Due.is("change by " + texts[i], x.change(0, 1, 0), due[i]);
        }
    }

    private static void changeAsTold() {
        Due.promise(16, "CHANGE from a PART to another one (as the TEXT tells it, held)");
        // nothing is halved or left away here
        FivePlayers x = Plays.kinds();
        Due.is("MASKED to MUTE", x.change(4, 2, 0), 4);
        Due.is("OFF to PART", x.change(3, 0, 0), 5);
        Due.is("text(1)", Due.text(x, 1, "50"), 1);
        for (int part = 1; part < 6; part++) {
            Due.is("change(0, " + part + ", 0)", x.change(0, part, 0), 50);
            Due.is("change(" + part + ", 0, 1)", x.change(part, 0, 1), 50);
        }
        Due.is("change(3, 4, 0)", x.change(3, 4, 0), 50);
    }

    private static void changeBeyond() {
        Due.promise(16, "with s (0, 1). BEYOND (also one PART and itself)");
        FivePlayers x = Plays.of(3, 0);
        Due.outside("change, from", 0, 2, Due.BEYOND, part -> x.change(part, 0, 0));
        Due.outside("change, to", 0, 2, Due.BEYOND, part -> x.change(0, part, 0));
        Due.outside("change, s", 0, 1, Due.BEYOND, s -> x.change(0, 1, s));
        for (int part = 0; part < 3; part++) {
            Due.is("one and itself", x.change(part, part, 0), Due.BEYOND);
            Due.is("one and itself", x.change(part, part, 1), Due.BEYOND);
        }
        Due.is("change(2, 1, 1)", x.change(2, 1, 1), 2);
    }
}
