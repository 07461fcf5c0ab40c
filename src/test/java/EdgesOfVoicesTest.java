/** VOICES at the ends of ints, PARTED and just not PARTED, THE TRACE when it is empty (Promises 26 and 27). */
public final class EdgesOfVoicesTest {
    private static final Checks c = new Checks();
    private static final int MIN = Checks.MIN;
    private static final int MAX = Checks.MAX;

    /** 6 THINGS, all of one KIND, with one m. */
    private static FromTheMiddle speakers(int kind, int m) {
        FromTheMiddle x = new FromTheMiddle();
        for (int i = 0; i < 6; i++) x.thing(10 * kind + m, 0, 1);
        return x;
    }

    private static void says(int kind, int m, int k, int voice, int x, int want) {
        FromTheMiddle s = speakers(kind, m);
        c.due("KIND " + kind + ", m " + m + ": voice(" + k + ", " + voice + ", " + x + ")", s.voice(k, voice, x), want);
        for (int e = 1; e <= 6; e++) c.due("that is no ERROR: told(" + e + ")", s.told(e), 0);
    }

    private static void wraps() {
        c.says("VOICES of a Thing, with a number x (ints that wrap)");
        says(0, 0, 0, 0, MAX, MAX);
        says(0, 0, 5, 0, MAX, MIN + 4);
        says(0, 0, 1, 0, MIN, MIN + 1);
        says(0, 0, 0, 1, 1 << 30, MIN);
        says(0, 0, 0, 1, MIN, 0);
        says(0, 0, 0, 1, MAX, -2);
        says(0, 9, 0, 2, -(1 << 30), MAX - 8);
        says(0, 9, 0, 2, MIN, -9);
        says(1, 0, 0, 0, MIN, MAX - 3);
        says(1, 0, 3, 0, MIN, MAX);
        says(1, 0, 0, 1, MIN, -8);
        says(2, 0, 0, 1, 1 << 30, MIN);
        says(2, 0, 0, 1, -(1 << 30), MIN);
        says(2, 0, 0, 1, MAX, 2);
        says(3, 0, 0, 2, MAX, MAX - 1);
        says(3, 0, 0, 2, MIN, MIN);
        says(4, 0, 0, 0, MAX, 2147483633);
        says(4, 0, 0, 0, MIN, 2147483636);
        says(4, 0, 5, 2, MIN + 3, 29);
        says(5, 0, 0, 1, MAX, 0);
        says(5, 0, 0, 1, (1 << 30) - 1, MIN);
        says(6, 9, 5, 0, MIN, 9);
        says(6, 9, 5, 1, MAX, 27);
        says(6, 9, 5, 2, MAX, 18);
        c.says("a VOICE of a THING: any number");
        // what looks like an ERROR is none
        for (int e = 1; e <= 6; e++) says(0, 0, 0, 0, -1000000000 - e, -1000000000 - e);
    }

    private static void halved() {
        c.says("Mirror: 40 snaps: super.snaps(x / 2); quotients are cut toward 0");
        says(3, 0, 0, 2, 1, 0);
        says(3, 0, 0, 2, -1, 0);
        says(3, 0, 0, 2, 2, 2);
        says(3, 0, 0, 2, -2, -2);
        says(3, 0, 0, 2, 3, 2);
        says(3, 0, 0, 2, -3, -2);
        says(3, 1, 2, 2, -3, 1);
        says(6, 0, 0, 2, -3, 18);
    }

    private static void parts() {
        c.says("13 parts: x by (m - k), cut");
        for (int k = 0; k < 6; k++) {
            for (int m = 0; m < 10; m++) {
                if (m == k) continue;
                for (int x : new int[] {0, 1, -1, 5, -5, 45, -46, MAX, MIN + 1}) {
                    // by plain steps: how often the divisor goes into x
                    int by = Math.abs(m - k);
                    int whole = Math.floorDiv(Math.abs(x), by);
                    says(0, m, k, 3, x, x < 0 == m < k ? whole : -whole);
                }
            }
        }
        says(0, 0, 1, 3, MIN, MIN);
        says(0, 4, 5, 3, MIN, MIN);
        says(0, 1, 0, 3, MIN, MIN);
        says(0, 9, 0, 3, 8, 0);
        says(0, 9, 0, 3, -8, 0);
        says(0, 9, 0, 3, 9, 1);
        says(0, 9, 0, 3, -9, -1);
        c.says("Pipe: 21 parts: super.parts(x) + scores(1)");
        // scores(1) of PIPE 0 is 2 * (1 - 4), of TAP 0 2 * 3 * (1 - 4)
        says(1, 1, 0, 3, MIN, MAX - 5);
        says(1, 1, 0, 3, MAX, MAX - 6);
        says(4, 1, 0, 3, MIN, MAX - 17);
        says(1, 9, 5, 3, 0, 4);
        says(4, 9, 5, 3, 0, 12);
        says(1, 0, 1, 3, MIN, MIN - 4);
    }

    private static void parted() {
        c.says("PARTED if that is 0; that is all that voice() answers then");
        for (int kind = 0; kind < 7; kind++) {
            for (int m = 0; m < 6; m++) {
                FromTheMiddle x = speakers(kind, m);
                for (int given : new int[] {0, 1, -1, MIN, MAX}) {
                    c.due("KIND " + kind + ": voice(" + m + ", 3, " + given + ") by m " + m, x.voice(m, 3, given), Checks.PARTED);
                }
                c.due("told(6)", x.told(6), 5);
                c.due("no BODIES", x.count(4), 0);
                c.due("the other voices do", x.voice(m, 2, 0) >= -1000 ? 1 : 0, 1);
                c.due("and the other THINGS", x.voice(m == 0 ? 1 : m - 1, 3, 0) >= -1000 ? 1 : 0, 1);
                c.due("told(6)", x.told(6), 5);
            }
        }
    }

    private static void trace(FromTheMiddle x, int... bodies) {
        c.due("BODIES", x.count(4), bodies.length);
        for (int i = 0; i < bodies.length; i++) c.due("body(" + i + ")", x.body(i), bodies[i]);
        for (int i : new int[] {-1, bodies.length, 29, 30, MIN, MAX}) c.due("body(" + i + ")", x.body(i), Checks.NONE);
    }

    private static void trace() {
        c.says("THE TRACE: the numbers of BODIES of the latest voice(), as they began (what stands left is worked out first)");
        trace(new FromTheMiddle());
        FromTheMiddle x = speakers(4, 2);
        trace(x);
        x.voice(0, 3, 1);
        trace(x, 21, 13, 11, 50, 20, 10);
        x.voice(0, 0, 1);
        trace(x, 50, 20, 10);
        x.become(0, 69);
        trace(x, 50, 20, 10);
        x.voice(0, 0, 1);
        trace(x, 70);
        x.voice(0, 2, 1);
        trace(x, 40, 12, 71, 11, 70);
        c.says("one that answers an ERROR changes nothing but what told() tells");
        x.voice(2, 3, 1);
        trace(x, 40, 12, 71, 11, 70);
        x.voice(6, 3, 1);
        trace(x, 40, 12, 71, 11, 70);
        x.voice(0, 4, 1);
        trace(x, 40, 12, 71, 11, 70);
        c.due("told(1)", x.told(1), 2);
        c.due("told(6)", x.told(6), 1);
    }

    private static void ranges() {
        c.says("a VOICE of a THING: BEYOND");
        FromTheMiddle x = speakers(0, 7);
        for (int thing : new int[] {-1, 6, MIN, MAX}) c.due("voice(" + thing + ", 0, 0)", x.voice(thing, 0, 0), Checks.BEYOND);
        for (int voice : new int[] {-1, 4, MIN, MAX}) c.due("voice(0, " + voice + ", 0)", x.voice(0, voice, 0), Checks.BEYOND);
        c.due("drips of the first", x.voice(0, 0, 0), 0);
        c.due("drips of the last", x.voice(5, 0, 0), 5);
        c.due("parts of the first", x.voice(0, 3, 7), 1);
        c.due("parts of the last", x.voice(5, 3, 7), 3);
        c.due("none there at all", new FromTheMiddle().voice(0, 0, 0), Checks.BEYOND);
    }

    public static void main(String[] args) {
        wraps();
        halved();
        parts();
        parted();
        trace();
        ranges();
        c.end();
    }
}
