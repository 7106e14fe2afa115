/** Promises 32 and 33 and term 7, sentence by sentence: voice, trace. */
final class VoiceEdges {
    private VoiceEdges() { }

    static void run() {
        voiceBeyond();
        voiceAnyNumber();
        voiceRound();
        voiceNumbers();
        voiceKinds();
        voiceRefused();
        traceNone();
        traceLatest();
        traceOrder();
        traceCounted();
    }

    private static void voice(FivePlayers x, int part, int act, int v, int due, int... bodies) {
        String call = "voice(" + part + ", " + act + ", " + v + ")";
        Due.is(call, x.voice(part, act, v), due);
        Due.is("count(6) of " + call, x.count(6), bodies.length);
        for (int i = 0; i < bodies.length; i++) {
            Due.is("trace(" + i + ") of " + call, x.trace(i), bodies[i]);
        }
        Due.is("trace behind " + call, x.trace(bodies.length), Due.NONE);
    }

    // ---- promise 32

    private static void voiceBeyond() {
        Due.promise(32, "BEYOND");
        FivePlayers x = Plays.kinds();
        Due.outside("voice, part", 0, 5, Due.BEYOND, part -> x.voice(part, 0, 0));
        Due.outside("voice, act", 0, 3, Due.BEYOND, act -> x.voice(0, act, 0));
        Due.is("voice(5, 2, 0)", x.voice(5, 2, 0), -5);
        Due.is("no PARTS", new FivePlayers().voice(0, 0, 0), Due.BEYOND);
    }

    private static void voiceAnyNumber() {
        Due.promise(32, "any number");
        FivePlayers x = Plays.of(1, 0);
        for (int k = 1; k <= 5; k++) {
            Due.is("voice(0, 0, " + (-1000000 - k) + ")", x.voice(0, 0, -1000000 - k), -1000000 - k);
            Due.is("told(" + k + "), it is no ERROR", x.told(k), 0);
            Due.is("count(6), it was done", x.count(6), 1);
        }
        Due.is("voice(0, 2, -1)", x.voice(0, 2, -1), -1);
    }

    private static void voiceRound() {
        Due.term(32, "with a number x (ints that go round)");
        FivePlayers x = Plays.kinds();
        x.part(2, 9);
        voice(x, 1, 0, Due.MAX, Due.MIN, 10);
        voice(x, 1, 2, Due.MIN, Due.MAX, 12);
        voice(x, 0, 1, Due.MIN, 0, 11, 10);
        voice(x, 0, 1, Due.MAX, -2, 11, 10);
        voice(x, 0, 3, Due.MIN, Due.MIN, 13, 11, 10, 12);
        voice(x, 3, 2, Due.MIN, (Due.MIN - 3) * 3, 40, 12);
        // x + 1 goes round: (MIN + 6 - 1) * 2 ^ MIN - 9
        voice(x, 6, 3, Due.MAX, 10 ^ (Due.MIN - 9), 31, 13, 11, 30, 10, 12);
        voice(x, 5, 0, Due.MAX, (Due.MAX + 5) ^ 5, 60, 10);
    }

    private static void voiceNumbers() {
        Due.term(32, "n is its number, w its WIG");
        FivePlayers x = new FivePlayers();
        for (int part = 0; part < 10; part++) {
            x.part(0, 9990 + 9 - part);
        }
        for (int part = 0; part < 10; part++) {
            Due.is("speak of " + part, x.voice(part, 0, 100), 100 + part);
            Due.is("walk of " + part, x.voice(part, 1, 100), 200 + 2 * part);
            Due.is("die of " + part, x.voice(part, 2, 100), 91 + part);
            Due.is("bow of " + part, x.voice(part, 3, 100), 200 + 2 * part ^ 91 + part);
        }
    }

    /** PART n is of KIND n and has WIG n. */
    private static void voiceKinds() {
        Due.term(32, "speak(..) is the BODY of its KIND, or of the next KIND above that has one");
        FivePlayers x = Plays.kinds();
        voice(x, 0, 3, 10, 20 ^ 10, 13, 11, 10, 12);
        voice(x, 1, 1, 10, 22 + 9, 20, 11, 10, 12);
        voice(x, 1, 3, 10, 31 ^ 9, 13, 20, 11, 10, 12, 12);
        voice(x, 2, 0, 10, 11, 30, 10);
        voice(x, 2, 1, 10, 22, 11, 30, 10);
        voice(x, 2, 3, 10, 24 ^ 9, 31, 13, 11, 30, 10, 12);
        voice(x, 3, 0, 10, 13, 10);
        voice(x, 3, 1, 10, 20 + 12, 41, 20, 11, 10, 40, 12);
        voice(x, 3, 2, 10, 21, 40, 12);
        voice(x, 3, 3, 10, 32 ^ 21, 13, 41, 20, 11, 10, 40, 12, 40, 12);
        voice(x, 4, 0, 10, 13, 30, 10);
        voice(x, 4, 3, 10, 6 - (28 ^ 7), 50, 12, 31, 13, 11, 30, 10, 12);
        voice(x, 5, 0, 10, 15 ^ 5, 60, 10);
        voice(x, 5, 1, 10, 20 + 5 + (6 ^ 5), 61, 20, 11, 60, 10, 12, 60, 10);
        voice(x, 5, 3, 10, 28 ^ 5, 13, 61, 20, 11, 60, 10, 12, 60, 10, 12);
    }

    private static void voiceRefused() {
        Due.promise(32, "BEYOND");
        FivePlayers x = Plays.of(1, 0);
        x.voice(0, 1, 0);
        Due.is("no such PART", x.voice(1, 0, 0), Due.BEYOND);
        Due.is("no such act", x.voice(0, 4, 0), Due.BEYOND);
        Due.is("count(6), THE TRACE stays", x.count(6), 2);
        Due.is("trace(0)", x.trace(0), 11);
        Due.is("trace(1)", x.trace(1), 10);
    }

    // ---- promise 33

    private static void traceNone() {
        Due.promise(33, "NONE: there is none such");
        FivePlayers x = Plays.kinds();
        Due.outside("trace, no voice yet", 0, -1, Due.NONE, x::trace);
        x.voice(5, 3, 0);
        Due.outside("trace, of ten", 0, 9, Due.NONE, x::trace);
        Due.is("trace(9)", x.trace(9), 12);
        Due.is("trace(39)", x.trace(39), Due.NONE);
        Due.is("trace(40)", x.trace(40), Due.NONE);
        x.voice(0, 0, 0);
        Due.outside("trace, of one", 0, 0, Due.NONE, x::trace);
        Due.is("trace(0)", x.trace(0), 10);
        Due.is("told(1)", x.told(1), 0);
    }

    private static void traceLatest() {
        Due.term(33, "THE TRACE: the numbers of BODIES of the latest voice()");
        FivePlayers x = Plays.kinds();
        voice(x, 5, 3, 0, (5 ^ 5) * 2 - 5 + 3 ^ -5, 13, 61, 20, 11, 60, 10, 12, 60, 10, 12);
        voice(x, 0, 2, 0, 0, 12);
        voice(x, 3, 2, 0, -9, 40, 12);
        voice(x, 3, 2, 0, -9, 40, 12);
    }

    private static void traceOrder() {
        Due.term(33, "as they began (what stands left is worked out first), the first 40");
        FivePlayers x = Plays.kinds();
        // walk(x) ^ die(x); die(x) - super.bow(x); super.walk(x) + speak(1)
        voice(x, 0, 3, 0, 0, 13, 11, 10, 12);
        voice(x, 4, 3, 0, -4 - (8 ^ -3), 50, 12, 31, 13, 11, 30, 10, 12);
        voice(x, 5, 1, 0, -5 + 3, 61, 20, 11, 60, 10, 12, 60, 10);
    }

    private static void traceCounted() {
        Due.promise(33, "THE TRACE's i-th");
        FivePlayers x = Plays.kinds();
        int[][] due = {{1, 2, 1, 4}, {1, 4, 1, 6}, {2, 3, 1, 6}, {1, 6, 2, 9}, {2, 3, 1, 8}, {2, 8, 1, 10}};
        for (int part = 0; part < 6; part++) {
            for (int act = 0; act < 4; act++) {
                x.voice(part, act, 3);
                Due.is("count(6) of " + part + ", " + act, x.count(6), due[part][act]);
                Due.is("the last of them", x.trace(due[part][act] - 1) > 0 ? 1 : 0, 1);
                Due.is("the one behind", x.trace(due[part][act]), Due.NONE);
            }
        }
    }
}
