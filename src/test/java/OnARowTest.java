/** What is seen of a THING on a row, and its HARM, by a hair on this side and on that (Promise 16, and buy(5)). */
public final class OnARowTest {
    private static final Checks c = new Checks();
    private static final int JOINTS = 0;
    private static final int GAP = 1;
    private static final int TOUCHES = 2;
    private static final int HIDES = 3;
    private static final int HARM = 4;
    private static final String[] SEEN = {"JOINTS", "GAP", "TOUCHES", "HIDES", "HARM"};

    /** Pieces 0..100, 104..204, 208..304, JOINTS 100..104 and 204..208; the last piece is a CUT. */
    private static FromTheMiddle three() {
        return Checks.wall(304, 100, 4);
    }

    /** Pieces 0..40, 44..144, 148..204: CUTS at both edges. */
    private static FromTheMiddle twoCuts() {
        FromTheMiddle x = Checks.wall(204, 100, 4);
        x.begin(40);
        return x;
    }

    /** One thing of a THING from FROM to its end on row 0, which becomes the last THING. */
    private static void see(FromTheMiddle x, int what, int from, int end, int want) {
        int thing = x.thing(0, from, end - from);
        c.due(SEEN[what] + " of " + from + " to " + end, x.seen(thing, 0, what), want);
    }

    private static void joints() {
        c.says("JOINTS: those that begin not behind its end, and end not ahead of FROM");
        FromTheMiddle x = three();
        see(x, JOINTS, 50, 99, 0);
        see(x, JOINTS, 50, 100, 1);
        see(x, JOINTS, 104, 105, 1);
        see(x, JOINTS, 105, 106, 0);
        see(x, JOINTS, 101, 102, 1);
        see(x, JOINTS, 100, 104, 1);
        x = three();
        see(x, JOINTS, 104, 203, 1);
        see(x, JOINTS, 104, 204, 2);
        see(x, JOINTS, 105, 203, 0);
        see(x, JOINTS, 105, 204, 1);
        see(x, JOINTS, 208, 209, 1);
        see(x, JOINTS, 209, 210, 0);
        x = three();
        see(x, JOINTS, 0, 999, 2);
        see(x, JOINTS, 0, 1, 0);
        see(x, JOINTS, 303, 304, 0);
        see(x, JOINTS, 304, 310, 0);
        see(x, JOINTS, 4000, 4999, 0);
        c.says("JOINTS: of all between two pieces that are one behind the other");
        x = Checks.wall(205, 100, 4);
        // 0..100, 104..204, a JOINT from 204 on, with no piece behind it
        see(x, JOINTS, 203, 206, 0);
        see(x, JOINTS, 204, 205, 0);
        see(x, JOINTS, 104, 205, 1);
        x.wall(0, 208);
        see(x, JOINTS, 204, 208, 0);
        x.wall(0, 209);
        see(x, JOINTS, 204, 208, 1);
        x = Checks.wall(100, 100, 0);
        see(x, JOINTS, 99, 101, 0);
        see(x, JOINTS, 0, 1, 0);
        x.wall(0, 101);
        // a JOINT of no width at 100
        see(x, JOINTS, 98, 99, 0);
        see(x, JOINTS, 99, 100, 1);
        see(x, JOINTS, 100, 101, 1);
        x.wall(0, 102);
        see(x, JOINTS, 101, 102, 0);
    }

    private static void gap() {
        c.says("GAP: the least of how far a piece begins from FROM, and a piece ends from its end");
        FromTheMiddle x = three();
        see(x, GAP, 104, 150, 0);
        see(x, GAP, 105, 150, 1);
        see(x, GAP, 103, 150, 1);
        see(x, GAP, 150, 204, 0);
        see(x, GAP, 150, 205, 1);
        see(x, GAP, 150, 203, 1);
        x = three();
        see(x, GAP, 0, 50, 0);
        see(x, GAP, 1, 50, 1);
        see(x, GAP, 250, 304, 0);
        see(x, GAP, 250, 303, 1);
        see(x, GAP, 250, 305, 1);
        see(x, GAP, 51, 52, 48);
        x = three();
        // what begins where it ends, and what ends where it begins, is not meant
        see(x, GAP, 154, 208, 4);
        see(x, GAP, 204, 250, 4);
        see(x, GAP, 156, 254, 50);
        see(x, GAP, 4000, 4999, 3792);
        see(x, GAP, 308, 1000, 100);
        x = Checks.wall(100, 200, 9);
        // one piece, 0..100
        see(x, GAP, 0, 999, 0);
        see(x, GAP, 60, 140, 40);
        see(x, GAP, 30, 60, 30);
        see(x, GAP, 70, 75, 25);
        see(x, GAP, 4000, 4001, 3901);
    }

    private static void touches() {
        c.says("TOUCHES: pieces that begin ahead of its end, and end behind FROM");
        FromTheMiddle x = three();
        see(x, TOUCHES, 99, 100, 1);
        see(x, TOUCHES, 100, 101, 0);
        see(x, TOUCHES, 100, 104, 0);
        see(x, TOUCHES, 100, 105, 1);
        see(x, TOUCHES, 99, 104, 1);
        see(x, TOUCHES, 99, 105, 2);
        x = three();
        see(x, TOUCHES, 204, 208, 0);
        see(x, TOUCHES, 203, 209, 2);
        see(x, TOUCHES, 303, 304, 1);
        see(x, TOUCHES, 304, 305, 0);
        see(x, TOUCHES, 0, 1, 1);
        see(x, TOUCHES, 0, 999, 3);
        x = three();
        see(x, TOUCHES, 103, 104, 0);
        see(x, TOUCHES, 104, 105, 1);
        see(x, TOUCHES, 4000, 4999, 0);
        x.wall(2, 0);
        // by JOINT 0 nothing is between 100 and 100
        see(x, TOUCHES, 99, 100, 1);
        see(x, TOUCHES, 100, 101, 1);
        see(x, TOUCHES, 99, 101, 2);
    }

    private static void hides() {
        c.says("HIDES: CUTS that begin not ahead of FROM, and end not behind its end");
        FromTheMiddle x = twoCuts();
        see(x, HIDES, 0, 39, 0);
        see(x, HIDES, 0, 40, 1);
        see(x, HIDES, 1, 41, 0);
        see(x, HIDES, 148, 204, 1);
        see(x, HIDES, 148, 203, 0);
        see(x, HIDES, 149, 205, 0);
        x = twoCuts();
        see(x, HIDES, 147, 205, 1);
        see(x, HIDES, 0, 203, 1);
        see(x, HIDES, 0, 204, 2);
        see(x, HIDES, 1, 204, 1);
        see(x, HIDES, 0, 999, 2);
        // a whole TILE is no CUT
        see(x, HIDES, 44, 144, 0);
        x = three();
        see(x, HIDES, 0, 204, 0);
        see(x, HIDES, 0, 304, 1);
        see(x, HIDES, 208, 303, 0);
        see(x, HIDES, 209, 304, 0);
        x.wall(0, 308);
        see(x, HIDES, 0, 999, 0);
        x.wall(0, 307);
        see(x, HIDES, 0, 999, 1);
        x = Checks.wall(100, 101, 0);
        // one piece alone is one CUT
        see(x, HIDES, 0, 100, 1);
        see(x, HIDES, 0, 99, 0);
        see(x, HIDES, 1, 101, 0);
        x.wall(1, 100);
        see(x, HIDES, 0, 999, 0);
    }

    /** HARM of all KINDS in turn, by m. */
    private static void harms(FromTheMiddle x, int m, int from, int end, int... want) {
        int thing = x.thing(0, from, end - from);
        for (int kind = 0; kind < 7; kind++) {
            x.become(thing, 10 * kind + m);
            c.due("m " + m + ", " + from + " to " + end + ": HARM of KIND " + kind, x.seen(thing, 0, HARM), want[kind]);
        }
    }

    private static void byJoints() {
        c.says("THING: 0, if there are JOINTS, else 1");
        harms(three(), 0, 50, 99, 1, 1, 0, 0, 2, 0, 0);
        harms(three(), 0, 50, 100, 0, 0, 1, 0, 0, 0, 0);
        harms(three(), 0, 50, 204, 0, 0, 2, 0, 0, 1, 0);
        c.says("OUTLET: TOUCHES, less what THING harms; SWITCH: as OUTLET, less 1 (0 at least)");
        // TOUCHES 0, 1, 1, 2, 3; what THING harms is 1, 1, 0, 0, 0
        harms(three(), 0, 310, 320, 1, 1, -1, 0, 2, 0, 0);
        harms(three(), 0, 120, 180, 1, 1, 0, 0, 2, 0, 0);
        harms(three(), 0, 99, 104, 0, 0, 1, 0, 0, 0, 0);
        harms(three(), 0, 99, 105, 0, 0, 2, 0, 0, 1, 0);
        harms(three(), 0, 50, 209, 0, 0, 3, 0, 0, 2, 0);
        // a JOINT alone
        harms(three(), 0, 100, 104, 0, 0, 0, 0, 0, 0, 0);
    }

    private static void byGap() {
        c.says("PIPE: as THING, times m and 1, if GAP is below 10; TAP: twice PIPE's");
        for (int m : new int[] {0, 1, 9}) {
            // GAP 9 and 10 of what begins, then of what ends
            harms(three(), m, 113, 150, 1, 1 + m, 0, 0, 2 + 2 * m, 0, m);
            harms(three(), m, 114, 150, 1, 1, 0, 0, 2, 0, m);
            harms(three(), m, 130, 195, 1, 1 + m, 0, 0, 2 + 2 * m, 0, m);
            harms(three(), m, 130, 194, 1, 1, 0, 0, 2, 0, m);
            // behind the end of the row
            harms(three(), m, 305, 313, 1, 1 + m, -1, 0, 2 + 2 * m, 0, m);
            harms(three(), m, 305, 314, 1, 1, -1, 0, 2, 0, m);
            // with JOINTS none, by any GAP
            harms(three(), m, 100, 204, 0, 0, 1, 0, 0, 0, m);
        }
    }

    private static void byHides() {
        c.says("MIRROR: HIDES less than nothing (as much below 0); SHELF: as MIRROR, and m");
        harms(twoCuts(), 0, 1, 203, 0, 0, 3, 0, 0, 2, 0);
        harms(twoCuts(), 0, 0, 203, 0, 0, 3, -1, 0, 2, -1);
        harms(twoCuts(), 0, 0, 204, 0, 0, 3, -2, 0, 2, -2);
        harms(twoCuts(), 1, 0, 204, 0, 0, 3, -2, 0, 2, -1);
        harms(twoCuts(), 2, 0, 204, 0, 0, 3, -2, 0, 2, 0);
        harms(twoCuts(), 9, 0, 204, 0, 0, 3, -2, 0, 2, 7);
    }

    private static void byText() {
        c.says("HARM is what the TEXT of that USE makes of it");
        FromTheMiddle x = three();
        for (int i = 0; i < 6; i++) x.thing(11 * i, 310, 1);
        Checks.text(x, 1, "n");
        for (int i = 0; i < 6; i++) c.due("n, the number of the THING", x.seen(i, 0, HARM), i);
        Checks.text(x, 1, "k");
        for (int i = 0; i < 6; i++) c.due("k, KIND", x.seen(i, 0, HARM), i);
        x.become(0, 69);
        c.due("k, KIND", x.seen(0, 0, HARM), 6);
        c.says("held within -99 .. 99");
        // HARM of an OUTLET is -1 here, and of a THING 1
        x.become(0, 20);
        x.become(1, 0);
        int[] times = {98, 99, 100};
        for (int t : times) {
            Checks.text(x, 1, "h*" + t);
            c.due(t + " times -1", x.seen(0, 0, HARM), -Math.min(99, t));
            c.due(t + " times 1", x.seen(1, 0, HARM), Math.min(99, t));
        }
        // 30 times 99980001 is above the greatest int, and wraps
        Checks.text(x, 1, "h*9999*9999*30");
        c.due("what wraps to above 0", x.seen(0, 0, HARM), 99);
        c.due("what wraps to below 0", x.seen(1, 0, HARM), -99);
        c.says("5 HARM (any number)");
        x.wall(4, 8);
        Checks.text(x, 1, "99");
        c.due("6 THINGS on 8 ROWS", x.buy(5), 6 * 8 * 99);
        Checks.text(x, 1, "0-99");
        c.due("6 THINGS on 8 ROWS", x.buy(5), -6 * 8 * 99);
        Checks.text(x, 1, "0-100");
        c.due("each held", x.buy(5), -6 * 8 * 99);
    }

    private static void byRow() {
        c.says("Of a THING on a row");
        FromTheMiddle x = three();
        x.wall(3, -9);
        x.wall(4, 8);
        x.wall(5, 1);
        x.thing(0, 241, 63);
        // row 7 ends at 241, and its pieces are 0..50, 54..154, 158..241
        int[] first = {0, 0, 1, 0, 1};
        int[] last = {0, 63, 0, 0, 1};
        for (int what = 0; what < 5; what++) {
            c.due(SEEN[what] + " on row 0", x.seen(0, 0, what), first[what]);
            c.due(SEEN[what] + " on row 7", x.seen(0, 7, what), last[what]);
        }
        c.due("row 8", x.seen(0, 8, 0), Checks.BEYOND);
        c.due("row -1", x.seen(0, -1, 0), Checks.BEYOND);
        c.due("THING 1", x.seen(1, 0, 0), Checks.BEYOND);
        c.due("THING -1", x.seen(-1, 0, 0), Checks.BEYOND);
    }

    public static void main(String[] args) {
        joints();
        gap();
        touches();
        hides();
        byJoints();
        byGap();
        byHides();
        byText();
        byRow();
        c.end();
    }
}
