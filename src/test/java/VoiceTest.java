/** Promises 32 and 33: voice, trace. */
public final class VoiceTest {
    public static void main(String[] args) {
        errors();
        voices();
        rounds();
        Due.end();
    }

    private static void errors() {
        FivePlayers x = new FivePlayers();
        Due.is("voice(0, 0, 0)", x.voice(0, 0, 0), Due.BEYOND);
        x.part(0, 0);
        Due.is("voice(0, 2, 9)", x.voice(0, 2, 9), 9);
        Due.is("voice(1, 0, 0)", x.voice(1, 0, 0), Due.BEYOND);
        Due.is("voice(-1, 0, 0)", x.voice(-1, 0, 0), Due.BEYOND);
        Due.is("voice(0, 4, 0)", x.voice(0, 4, 0), Due.BEYOND);
        Due.is("voice(0, -1, 0)", x.voice(0, -1, 0), Due.BEYOND);
        Due.is("trace(-1)", x.trace(-1), Due.NONE);
        Due.is("trace(0), as it was", x.trace(0), 12);
        Due.is("trace(1)", x.trace(1), Due.NONE);
        Due.is("trace(min)", x.trace(Integer.MIN_VALUE), Due.NONE);
        long before = Due.errors(x);
        // any number, one that is an ERROR elsewhere too
        Due.is("voice(0, 0, -1000001)", x.voice(0, 0, -1000001), -1000001);
        Due.is("errors, as they were", Due.errors(x), before);
    }

    private static void voice(FivePlayers x, int part, int act, int v, int due, int... bodies) {
        String call = "voice(" + part + ", " + act + ", " + v + ")";
        Due.is(call, x.voice(part, act, v), due);
        Due.is("count(6) of " + call, x.count(6), bodies.length);
        for (int i = 0; i < bodies.length; i++) {
            Due.is("trace(" + i + ") of " + call, x.trace(i), bodies[i]);
        }
        Due.is("trace behind " + call, x.trace(bodies.length), Due.NONE);
    }

    /** PART n is of KIND n and has WIG n + 3, x is 100. */
    private static void voices() {
        FivePlayers x = new FivePlayers();
        for (int kind = 0; kind < 6; kind++) {
            x.part(kind, kind + 3);
        }
        voice(x, 0, 0, 100, 100, 10);
        voice(x, 0, 1, 100, 200, 11, 10);
        voice(x, 0, 2, 100, 97, 12);
        voice(x, 0, 3, 100, 200 ^ 97, 13, 11, 10, 12);
        voice(x, 1, 0, 100, 101, 10);
        voice(x, 1, 1, 100, 202 + 96, 20, 11, 10, 12);
        voice(x, 1, 2, 100, 96, 12);
        voice(x, 1, 3, 100, 298 ^ 96, 13, 20, 11, 10, 12, 12);
        voice(x, 2, 0, 100, 101, 30, 10);
        voice(x, 2, 1, 100, 202, 11, 30, 10);
        voice(x, 2, 2, 100, 95, 12);
        voice(x, 2, 3, 100, 204 ^ 96, 31, 13, 11, 30, 10, 12);
        voice(x, 3, 0, 100, 103, 10);
        voice(x, 3, 1, 100, 194 + 88 * 3, 41, 20, 11, 10, 40, 12);
        voice(x, 3, 2, 100, 94 * 3, 40, 12);
        voice(x, 3, 3, 100, 458 ^ 282, 13, 41, 20, 11, 10, 40, 12, 40, 12);
        voice(x, 4, 0, 100, 103, 30, 10);
        voice(x, 4, 1, 100, 206, 11, 30, 10);
        voice(x, 4, 2, 100, 93, 12);
        voice(x, 4, 3, 100, 93 - (208 ^ 94), 50, 12, 31, 13, 11, 30, 10, 12);
        voice(x, 5, 0, 100, 105 ^ 5, 60, 10);
        voice(x, 5, 1, 100, (105 ^ 5) * 2 + 92 + (6 ^ 5), 61, 20, 11, 60, 10, 12, 60, 10);
        voice(x, 5, 2, 100, 92, 12);
        voice(x, 5, 3, 100, (216 + 92 + 3) ^ 92, 13, 61, 20, 11, 60, 10, 12, 60, 10, 12);
    }

    private static void rounds() {
        FivePlayers x = new FivePlayers();
        x.part(0, 9);
        x.part(3, 9);
        voice(x, 1, 0, Integer.MAX_VALUE, Integer.MIN_VALUE, 10);
        voice(x, 0, 2, Integer.MIN_VALUE, Integer.MAX_VALUE - 8, 12);
        voice(x, 0, 1, 1 << 30, Integer.MIN_VALUE, 11, 10);
        voice(x, 1, 2, Integer.MAX_VALUE, (Integer.MAX_VALUE - 9) * 3, 40, 12);
    }
}
