/** Promises 14 to 16: feed, text, change; the TEXTS of term 2. */
public final class TextTest {
    public static void main(String[] args) {
        feed();
        text();
        faults();
        worths();
        change();
        Due.end();
    }

    private static void feed() {
        FivePlayers x = new FivePlayers();
        Due.is("feed(0, 0)", x.feed(0, 0), Due.BEYOND);
        Due.is("feed(0, 9)", x.feed(0, 9), Due.BEYOND);
        Due.is("feed(0, -1)", x.feed(0, -1), Due.BEYOND);
        for (int i = 1; i <= 6; i++) {
            Due.is("feed, 8 bytes", x.feed(-1L, 8), 8 * i);
        }
        Due.is("feed, 3 more than 48", x.feed(0, 3), Due.FULL);
        Due.is("feed, 9 more than 48", x.feed(0, 9), Due.BEYOND);
        Due.is("count(4)", x.count(4), 48);
        Due.is("feed, 2 more", x.feed(0, 2), 50);
        Due.is("feed, 1 more than 50", x.feed(0, 1), Due.FULL);
        Due.is("bytes of no text", x.text(0), -10);
        Due.is("count(4), emptied", x.count(4), 0);
        // '7' '+' 'g' of a word with more in it, the lowest first
        Due.is("feed, 3 of 4 bytes", x.feed(0x7f672b37L, 3), 3);
        Due.is("text(2)", x.text(2), 1);
        x.part(0, 0);
        x.player(2, 0);
        Due.is("wish", x.wish(0, 0), 9);
        Due.is("feed, the highest byte too", x.feed(0x675b2b372b372b37L, 8), 8);
        Due.is("text(2), [ at 6", x.text(2), -16);
    }

    private static void text() {
        FivePlayers x = new FivePlayers();
        x.part(0, 3000);
        x.player(5, 0);
        Due.feed(x, "n+1");
        Due.is("text(3)", x.text(3), Due.BEYOND);
        Due.is("text(-1)", x.text(-1), Due.BEYOND);
        Due.is("count(4), it stays", x.count(4), 3);
        Due.is("text(2)", x.text(2), 1);
        Due.is("count(4), empty", x.count(4), 0);
        Due.is("count(7)", x.count(7), 1);
        Due.is("wish", x.wish(0, 0), 4);
        Due.is("text(2), empty tape", x.text(2), -10);
        Due.is("a fault", Due.text(x, 2, "n+"), -12);
        Due.is("count(4), emptied", x.count(4), 0);
        Due.is("wish, by the one ahead", x.wish(0, 0), 4);
        Due.is("another one", Due.text(x, 2, "n*n"), 1);
        Due.is("wish, by the other", x.wish(0, 0), 9);
        Due.is("count(7), still", x.count(7), 1);
        Due.is("a text of CAN", Due.text(x, 0, "0"), 1);
        Due.is("count(7), one more", x.count(7), 2);
        Due.is("told(1)", x.told(1), 2);
    }

    private static void faults() {
        // where a text goes wrong, or -1
        fault(0, "g+a*n-y/k", -1);
        fault(0, "l", 0);
        fault(0, "w", 0);
        fault(1, "w+v+k+q+s", -1);
        fault(1, "w+g", 2);
        fault(1, "l", 0);
        fault(2, "g+a+n+y+k+l", -1);
        fault(2, "g+s", 2);
        fault(0, "1", -1);
        fault(0, "0000", -1);
        fault(0, "12345", 4);
        fault(0, "1234g", 4);
        fault(0, "gg", 1);
        fault(0, "g1", 1);
        fault(0, "1g", 1);
        fault(0, "G", 0);
        fault(0, " g", 0);
        fault(0, "g ", 1);
        fault(0, "-1", 0);
        fault(0, "+1", 0);
        fault(0, "1+-1", 2);
        fault(0, "1-!1", -1);
        fault(0, "1!", 1);
        fault(0, "1<2", -1);
        fault(0, "1<2<3", 3);
        fault(0, "1=2>3", 3);
        fault(0, "1<2+3*4&5<6|7>8", -1);
        fault(0, "(1<2)<3", -1);
        fault(0, "1<(2<3)", -1);
        fault(0, "(1<2<3)", 4);
        fault(0, "1<", 2);
        fault(0, "<1", 0);
        fault(0, "1|", 2);
        fault(0, "1||2", 2);
        fault(0, "1&&2", 2);
        fault(0, "1*/2", 2);
        fault(0, "1%", 2);
        fault(0, "()", 1);
        fault(0, ")", 0);
        fault(0, "1)", 1);
        fault(0, "(1", 2);
        fault(0, "(1))", 3);
        fault(0, "(((((1)))))", -1);
        fault(0, "((((((1))))))", 5);
        fault(0, "!!!!!1", -1);
        fault(0, "!!!!!!1", 5);
        fault(0, "!(!(!1))", -1);
        fault(0, "!(!(!(1)))", 5);
        fault(0, "!!!!!1+!!!!!1", -1);
        fault(0, "((1)+(((!1))))", -1);
        fault(0, "(((((1)+!1))))", -1);
        fault(0, "(((((1+!1)))))", 7);
        fault(0, "!!!(!1+!1)", -1);
        fault(0, "!!!(!1+!!1)", 8);
        fault(0, "((((((", 5);
        fault(0, "(((((", 5);
        fault(0, "!", 1);
        fault(0, "1^2", 1);
        fault(0, "1+" + (char) 233, 2);
        fault(0, "1+" + (char) 0, 2);
        fault(0, "1+1+1+1+1+1+1+1+1+1+1+1+1+1+1+1+1+1+1+1+1+1+1+1+1+", 50);
        fault(0, "1+1+1+1+1+1+1+1+1+1+1+1+1+1+1+1+1+1+1+1+1+1+1+1+10", -1);
        fault(0, "!!!!!1*1+!!!!!1*1+!!!!!1*1+!!!!!1*1+!!!!!1*1+!!!!!", 50);
    }

    private static void fault(int use, String text, int place) {
        FivePlayers x = new FivePlayers();
        Due.is("text(" + use + ") of " + text, Due.text(x, use, text), place < 0 ? 1 : -10 - place);
        Due.is("count(7) behind " + text, x.count(7), place < 0 ? 1 : 0);
        Due.is("count(4) behind " + text, x.count(4), 0);
    }

    private static void worths() {
        worth("1+2*3", 7);
        worth("(1+2)*3", 9);
        worth("9-3-2", 4);
        worth("9-(3-2)", 8);
        worth("100/7/2", 7);
        worth("100/(7/2)", 33);
        worth("100%7*3", 6);
        worth("2*7%4", 2);
        worth("7/0", 0);
        worth("7%0+1", 1);
        worth("10+(0-7)/2", 7);
        worth("10+(0-7)%4", 7);
        worth("10+7%(0-4)", 13);
        worth("!0", 1);
        worth("!5", 0);
        worth("!!5", 1);
        worth("!0+1", 2);
        worth("!0*0", 0);
        worth("!(0*0)", 1);
        worth("2&3", 1);
        worth("2&0", 0);
        worth("0|7", 1);
        worth("0|0", 0);
        worth("1|0&0", 1);
        worth("(1|0)&0", 0);
        worth("1<2", 1);
        worth("2<2", 0);
        worth("2=2", 1);
        worth("2>2", 0);
        worth("3>2", 1);
        worth("1+1=2&5", 1);
        worth("5&1=0", 0);
        worth("0-1&1", 1);
        worth("0007", 7);
        worth("9999-9000", 999);
        worth("9999/10", 999);
        // 9999 * 9999 * 9999 goes round
        worth("(0-9999*9999*9999)/9999/999", 102);
        // the least int, by itself less one
        worth("8192*4096*64=0-8192*4096*64", 1);
        worth("8192*4096*64/(0-1)=8192*4096*64", 1);
        worth("8192*4096*64%(0-1)+3", 3);
        worth("8192*4096*64<0", 1);
        worth("8192*4096*64-1>0", 1);
    }

    private static void worth(String text, int due) {
        FivePlayers x = new FivePlayers();
        x.part(0, 0);
        x.player(0, 0);
        Due.is("text(2) of " + text, Due.text(x, 2, text), 1);
        Due.is("worth of " + text, x.wish(0, 0), Math.max(0, Math.min(999, due)));
    }

    private static void change() {
        FivePlayers x = new FivePlayers();
        x.part(4, 2);
        x.part(3, 9);
        Due.is("change(0, 1, 0)", x.change(0, 1, 0), 9);
        Due.is("change(1, 0, 1)", x.change(1, 0, 1), 9);
        Due.is("change(0, 0, 0)", x.change(0, 0, 0), Due.BEYOND);
        Due.is("change(2, 0, 0)", x.change(2, 0, 0), Due.BEYOND);
        Due.is("change(0, 2, 0)", x.change(0, 2, 0), Due.BEYOND);
        Due.is("change(-1, 0, 0)", x.change(-1, 0, 0), Due.BEYOND);
        Due.is("change(0, -1, 0)", x.change(0, -1, 0), Due.BEYOND);
        Due.is("change(0, 1, 2)", x.change(0, 1, 2), Due.BEYOND);
        Due.is("change(0, 1, -1)", x.change(0, 1, -1), Due.BEYOND);
        change(x, "w", 2, 2, 9, 9);
        change(x, "v", 9, 9, 2, 2);
        change(x, "k", 4, 4, 3, 3);
        change(x, "q", 3, 3, 4, 4);
        change(x, "s", 0, 1, 0, 1);
        change(x, "w-v+s", 0, 0, 7, 8);
        change(x, "99", 99, 99, 99, 99);
        change(x, "w*20+s*100", 40, 99, 99, 99);
    }

    private static void change(FivePlayers x, String text, int a, int b, int c, int d) {
        Due.is("text(1) of " + text, Due.text(x, 1, text), 1);
        Due.is("change(0, 1, 0) by " + text, x.change(0, 1, 0), a);
        Due.is("change(0, 1, 1) by " + text, x.change(0, 1, 1), b);
        Due.is("change(1, 0, 0) by " + text, x.change(1, 0, 0), c);
        Due.is("change(1, 0, 1) by " + text, x.change(1, 0, 1), d);
    }
}
