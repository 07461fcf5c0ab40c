/** Promises 5 to 9 and 16: THINGS, and what is seen of them on a row. */
public final class ThingsTest {
    private static final Checks c = new Checks();
    private static final int JOINTS = 0;
    private static final int GAP = 1;
    private static final int TOUCHES = 2;
    private static final int HIDES = 3;
    private static final int HARM = 4;

    private static void things() {
        FromTheMiddle x = new FromTheMiddle();
        for (int[] wrong : new int[][] {{-1, 0, 1}, {70, 0, 1}, {0, -1, 1}, {0, 4001, 1}, {0, 0, 0}, {0, 0, 1000}}) {
            c.due("a wrong THING", x.thing(wrong[0], wrong[1], wrong[2]), Checks.BEYOND);
        }
        c.due("none came", x.count(0), 0);
        c.due("thing(0, 0, 1)", x.thing(0, 0, 1), 0);
        c.due("thing(69, 4000, 999)", x.thing(69, 4000, 999), 1);
        int[] is = {6, 9, 4000, 999};
        for (int what = 0; what < is.length; what++) c.due("thingIs(1, " + what + ")", x.thingIs(1, what), is[what]);
        c.due("thingIs(0, 3)", x.thingIs(0, 3), 1);
        c.due("thingIs(0, 4)", x.thingIs(0, 4), Checks.BEYOND);
        c.due("thingIs(0, -1)", x.thingIs(0, -1), Checks.BEYOND);
        c.due("thingIs(2, 0)", x.thingIs(2, 0), Checks.BEYOND);
        c.due("thingIs(-1, 0)", x.thingIs(-1, 0), Checks.BEYOND);
        for (int i = 2; i < 6; i++) c.due("one more", x.thing(10, 5, 5), i);
        c.due("a seventh", x.thing(10, 5, 5), Checks.FULL);
        c.due("BEYOND ahead of FULL", x.thing(10, 5, 0), Checks.BEYOND);
        c.due("six stay", x.count(0), 6);
        c.due("FULL once", x.told(4), 1);
    }

    private static void kinds() {
        FromTheMiddle x = new FromTheMiddle();
        x.thing(47, 1, 2);
        c.due("become(0, 53)", x.become(0, 53), 4);
        c.due("KIND", x.thingIs(0, 0), 5);
        c.due("m", x.thingIs(0, 1), 3);
        c.due("FROM stays", x.thingIs(0, 2), 1);
        c.due("WIDTH stays", x.thingIs(0, 3), 2);
        c.due("become(0, 70)", x.become(0, 70), Checks.BEYOND);
        c.due("become(0, -1)", x.become(0, -1), Checks.BEYOND);
        c.due("become(1, 0)", x.become(1, 0), Checks.BEYOND);
        c.due("become(-1, 0)", x.become(-1, 0), Checks.BEYOND);
        c.due("it stays a SWITCH", x.thingIs(0, 0), 5);
        int[] under = {0b0000001, 0b0000011, 0b0000101, 0b0001001, 0b0010011, 0b0100101, 0b1001001};
        for (int own = 0; own < 7; own++) {
            x.become(0, 10 * own + 8);
            for (int kind = 0; kind < 7; kind++) {
                c.due(own + " as " + kind, x.as(0, kind), (under[own] >> kind & 1) == 1 ? 8 : Checks.KIND);
            }
        }
        c.due("as(0, 7)", x.as(0, 7), Checks.BEYOND);
        c.due("as(0, -1)", x.as(0, -1), Checks.BEYOND);
        c.due("as(1, 0)", x.as(1, 0), Checks.BEYOND);
    }

    private static void hang() {
        FromTheMiddle x = new FromTheMiddle();
        x.thing(0, 12, 34);
        c.due("hang(0, 0)", x.hang(0, 0), 12);
        c.due("hang(0, 4000)", x.hang(0, 4000), 0);
        c.due("hang(0, 4001)", x.hang(0, 4001), Checks.BEYOND);
        c.due("hang(0, -1)", x.hang(0, -1), Checks.BEYOND);
        c.due("hang(1, 0)", x.hang(1, 0), Checks.BEYOND);
        c.due("FROM", x.thingIs(0, 2), 4000);
    }

    /** Pieces 0..100, 104..204, 208..304, the last one a CUT; THING 0 is of all KINDS in turn, with m 3. */
    private static FromTheMiddle threePieces() {
        FromTheMiddle x = new FromTheMiddle();
        x.wall(0, 304);
        x.wall(1, 100);
        x.wall(2, 4);
        x.thing(3, 0, 1);
        return x;
    }

    private static void see(FromTheMiddle x, int from, int width, int[] seen, int[] harms) {
        FromTheMiddle y = threePieces();
        y.become(0, 3);
        y.thing(3, from, width);
        String on = from + " and " + width + ": ";
        for (int what = 0; what < seen.length; what++) c.due(on + what, y.seen(1, 0, what), seen[what]);
        for (int kind = 0; kind < harms.length; kind++) {
            y.become(1, 10 * kind + 3);
            c.due(on + "HARM of KIND " + kind, y.seen(1, 0, HARM), harms[kind]);
        }
    }

    private static void seen() {
        FromTheMiddle x = threePieces();
        see(x, 100, 4, new int[] {1, 4, 0, 0}, new int[] {0, 0, 0, 0, 0, 0, 3});
        see(x, 105, 98, new int[] {0, 1, 1, 0}, new int[] {1, 4, 0, 0, 8, 0, 3});
        see(x, 104, 100, new int[] {2, 0, 1, 0}, new int[] {0, 0, 1, 0, 0, 0, 3});
        // GAP 10 and 9
        see(x, 114, 80, new int[] {0, 10, 1, 0}, new int[] {1, 1, 0, 0, 2, 0, 3});
        see(x, 113, 81, new int[] {0, 9, 1, 0}, new int[] {1, 4, 0, 0, 8, 0, 3});
        // the CUT is hidden from its begin to its end
        see(x, 208, 96, new int[] {1, 0, 1, 1}, new int[] {0, 0, 1, -1, 0, 0, 2});
        see(x, 209, 96, new int[] {0, 1, 1, 0}, new int[] {1, 4, 0, 0, 8, 0, 3});
        see(x, 208, 95, new int[] {1, 0, 1, 0}, new int[] {0, 0, 1, 0, 0, 0, 3});
        see(x, 150, 100, new int[] {1, 46, 2, 0}, new int[] {0, 0, 2, 0, 0, 1, 3});
        // the GAP is to a piece's end behind, ahead, to a piece's begin behind, ahead
        see(x, 150, 140, new int[] {1, 14, 2, 0}, new int[] {0});
        see(x, 150, 60, new int[] {1, 6, 2, 0}, new int[] {0});
        see(x, 200, 50, new int[] {1, 8, 2, 0}, new int[] {0});
        see(x, 110, 40, new int[] {0, 6, 1, 0}, new int[] {1, 4});
        see(x, 3, 40, new int[] {0, 3, 1, 0}, new int[] {1, 4});
        see(x, 0, 999, new int[] {2, 0, 3, 1}, new int[] {0, 0, 3, -1, 0, 2, 2});
        // beyond the row: an OUTLET may be below 0, a SWITCH not
        see(x, 400, 5, new int[] {0, 101, 0, 0}, new int[] {1, 1, -1, 0, 2, 0, 3});
    }

    private static void seenElse() {
        FromTheMiddle x = threePieces();
        x.wall(2, 0);
        x.hang(0, 100);
        c.due("JOINTS of no width count", x.seen(0, 0, JOINTS), 1);
        x.wall(4, 2);
        x.wall(5, 1);
        x.hang(0, 50);
        c.due("row 1 begins with a half", x.seen(0, 1, JOINTS), 1);
        c.due("row 0 doesn't", x.seen(0, 0, JOINTS), 0);
        c.due("GAP", x.seen(0, 1, GAP), 0);
        c.due("TOUCHES", x.seen(0, 1, TOUCHES), 1);
        FromTheMiddle y = threePieces();
        y.begin(40);
        y.thing(30, 0, 40);
        c.due("the first CUT is hidden, too", y.seen(1, 0, HIDES), 1);
        c.due("seen(2, 0, 0)", y.seen(2, 0, 0), Checks.BEYOND);
        c.due("seen(-1, 0, 0)", y.seen(-1, 0, 0), Checks.BEYOND);
        c.due("seen(0, 1, 0)", y.seen(0, 1, 0), Checks.BEYOND);
        c.due("seen(0, -1, 0)", y.seen(0, -1, 0), Checks.BEYOND);
        c.due("seen(0, 0, 5)", y.seen(0, 0, 5), Checks.BEYOND);
        c.due("seen(0, 0, -1)", y.seen(0, 0, -1), Checks.BEYOND);
    }

    public static void main(String[] args) {
        things();
        kinds();
        hang();
        seen();
        seenElse();
        c.end();
    }
}
