/** Promises 26 and 27: VOICES and THE TRACE. */
public final class VoicesTest {
    private static final Checks c = new Checks();
    private static final int M = 9;
    private static final int K = 3;

    /** THING 3 is of a KIND, with m 9. */
    private static FromTheMiddle speaker(int kind) {
        FromTheMiddle x = new FromTheMiddle();
        for (int i = 0; i <= K; i++) x.thing(10 * kind + M, 0, 1);
        return x;
    }

    private static void say(int kind, int voice, int x, int want, int... bodies) {
        FromTheMiddle s = speaker(kind);
        String told = "voice " + voice + " of KIND " + kind + " with " + x;
        c.due(told, s.voice(K, voice, x), want);
        c.due("BODIES of " + told, s.count(4), bodies.length);
        for (int i = 0; i < bodies.length; i++) c.due("body " + i + " of " + told, s.body(i), bodies[i]);
        c.due("behind the last", s.body(bodies.length), Checks.NONE);
    }

    private static void voices() {
        say(0, 0, 5, 8, 10);
        say(0, 1, 5, 16, 11, 10);
        say(0, 2, 5, 7, 12, 11, 10);
        say(0, 3, 20, 3, 13);
        say(0, 3, -20, -3, 13);
        say(1, 0, 5, 4, 20, 10);
        say(1, 1, 5, 8, 11, 20, 10);
        say(1, 2, 5, -1, 12, 11, 20, 10);
        say(1, 3, 20, 3, 21, 13, 11, 20, 10);
        say(2, 0, 5, 8, 10);
        say(2, 1, 5, -16, 30, 11, 10);
        say(2, 2, 5, -25, 12, 30, 11, 10);
        say(2, 3, 20, 3, 13);
        say(3, 0, 5, 8, 10);
        say(3, 1, 5, 16, 11, 10);
        say(3, 2, 5, 1, 40, 12, 11, 10);
        say(3, 2, -5, -7, 40, 12, 11, 10);
        say(3, 3, 20, 3, 13);
        say(4, 0, 5, 12, 50, 20, 10);
        say(4, 1, 5, 24, 11, 50, 20, 10);
        say(4, 2, 5, 15 ^ 3, 51, 12, 11, 50, 20, 10);
        say(4, 3, 20, 3, 21, 13, 11, 50, 20, 10);
        say(5, 0, 5, 8, 10);
        say(5, 1, 5, -18, 60, 30, 11, 10);
        say(5, 2, 5, -27, 12, 60, 30, 11, 10);
        say(5, 3, 20, 3, 13);
        say(6, 0, 5, 9, 70);
        say(6, 1, 5, 27, 71, 11, 70);
        say(6, 2, 5, 18, 40, 12, 71, 11, 70);
        say(6, 3, 20, 3, 13);
    }

    /** By number 1, 2 * (1 + 1 - 4) is what a PIPE scores with 1, and 6 * (1 + 1 - 4) what a TAP does. */
    private static void partsAndScores() {
        FromTheMiddle x = speaker(1);
        c.due("PIPE 1 parts 80", x.voice(1, 3, 80), 10 - 4);
        x.become(1, 49);
        c.due("TAP 1 parts 80", x.voice(1, 3, 80), 10 - 12);
    }

    private static void wraps() {
        FromTheMiddle x = speaker(0);
        c.due("drips wraps", x.voice(K, 0, Integer.MAX_VALUE), Integer.MIN_VALUE + 2);
        c.due("scores wraps", x.voice(0, 1, 1 << 30), Integer.MIN_VALUE);
        x.become(1, 0);
        c.due("the least by -1 wraps", x.voice(1, 3, Integer.MIN_VALUE), Integer.MIN_VALUE);
        c.due("what looks like an ERROR is none", x.voice(0, 0, Checks.BEYOND), Checks.BEYOND);
        c.due("and isn't told", x.told(1), 0);
    }

    private static void errors() {
        FromTheMiddle x = speaker(1);
        c.due("voice(4, 0, 1)", x.voice(4, 0, 1), Checks.BEYOND);
        c.due("voice(-1, 0, 1)", x.voice(-1, 0, 1), Checks.BEYOND);
        c.due("voice(0, 4, 1)", x.voice(0, 4, 1), Checks.BEYOND);
        c.due("voice(0, -1, 1)", x.voice(0, -1, 1), Checks.BEYOND);
        x.become(2, 2);
        x.become(K, 43);
        x.voice(0, 0, 1);
        c.due("m is k", x.voice(K, 3, 1), Checks.PARTED);
        c.due("m is k", x.voice(2, 3, 1), Checks.PARTED);
        c.due("the other voices do", x.voice(K, 0, 1), 0);
        c.due("PARTED is told", x.told(6), 2);
        c.due("body(-1)", x.body(-1), Checks.NONE);
        c.due("body(30)", x.body(30), Checks.NONE);
    }

    private static void traceStays() {
        FromTheMiddle x = speaker(0);
        x.become(K, 3);
        x.voice(0, 2, 1);
        x.voice(K, 3, 1);
        c.due("an ERROR leaves THE TRACE", x.count(4), 3);
        c.due("an ERROR leaves THE TRACE", x.body(0), 12);
        x.voice(9, 0, 1);
        c.due("an ERROR leaves THE TRACE", x.body(2), 10);
    }

    public static void main(String[] args) {
        voices();
        partsAndScores();
        wraps();
        errors();
        traceStays();
        c.end();
    }
}
