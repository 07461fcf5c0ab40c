/** Promises 1 to 4, 14, 15: a new object, the wall, its rows. */
public final class WallTest {
    private static final Checks c = new Checks();

    private static void newObject() {
        FromTheMiddle x = new FromTheMiddle();
        int[] first = {2000, 150, 2, 0, 1, 0, 150};
        for (int what = 0; what < first.length; what++) c.due("wallIs(" + what + ")", x.wallIs(what), first[what]);
        int[] counts = {0, 150, 0, 0, 0, 1};
        for (int what = 0; what < counts.length; what++) c.due("count(" + what + ")", x.count(what), counts[what]);
        for (int k = 1; k <= 6; k++) c.due("told(" + k + ")", x.told(k), 0);
        c.due("no TEXT of BROKEN", x.untell(0), 0);
        c.due("no TEXT of HARM", x.untell(1), 0);
        c.due("no THING", x.thingIs(0, 0), Checks.BEYOND);
        c.due("no SHEET", x.judge(0), Checks.NONE);
        c.due("no IMAGE", x.restore(), Checks.NONE);
        c.due("no TRACE", x.body(0), Checks.NONE);
    }

    private static void wall() {
        int[] least = {100, 50, 0, -9, 1, 0};
        int[] most = {4000, 200, 9, 9, 8, 1};
        int[] first = {2000, 150, 2, 0, 1, 0};
        for (int what = 0; what < least.length; what++) {
            FromTheMiddle x = new FromTheMiddle();
            c.due("wall(" + what + ", below)", x.wall(what, least[what] - 1), Checks.BEYOND);
            c.due("wall(" + what + ", above)", x.wall(what, most[what] + 1), Checks.BEYOND);
            c.due("it stays", x.wallIs(what), first[what]);
            c.due("wall(" + what + ", least)", x.wall(what, least[what]), first[what]);
            c.due("wall(" + what + ", most)", x.wall(what, most[what]), least[what]);
            c.due("it is most", x.wallIs(what), most[what]);
            c.due("two were BEYOND", x.told(1), 2);
        }
        FromTheMiddle x = new FromTheMiddle();
        for (int what : new int[] {-1, 6, Integer.MIN_VALUE, Integer.MAX_VALUE}) {
            c.due("wall(" + what + ", 1)", x.wall(what, 1), Checks.BEYOND);
        }
        for (int what : new int[] {-1, 7, Integer.MIN_VALUE, Integer.MAX_VALUE}) {
            c.due("wallIs(" + what + ")", x.wallIs(what), Checks.BEYOND);
        }
        x.begin(7);
        c.due("TILE becomes START, too", x.wall(1, 60), 150);
        c.due("START", x.wallIs(6), 60);
        c.due("LENGTH leaves START", x.wall(0, 500), 2000);
        c.due("START", x.wallIs(6), 60);
    }

    private static void begin() {
        FromTheMiddle x = new FromTheMiddle();
        c.due("begin(1)", x.begin(1), 150);
        c.due("begin(150)", x.begin(150), 1);
        c.due("begin(151)", x.begin(151), Checks.BEYOND);
        c.due("begin(0)", x.begin(0), Checks.BEYOND);
        c.due("begin(-5)", x.begin(-5), Checks.BEYOND);
        c.due("START stays", x.wallIs(6), 150);
    }

    private static void pieces() {
        FromTheMiddle x = new FromTheMiddle();
        x.wall(0, 302);
        c.due("two TILES and a JOINT", x.piece(0, -1), 2);
        c.due("the last one is whole", x.piece(0, 1), 150);
        x.wall(0, 304);
        c.due("a JOINT at the row's end", x.piece(0, -1), 2);
        x.wall(0, 305);
        c.due("one beyond it", x.piece(0, -1), 3);
        c.due("is the third", x.piece(0, 2), 1);
        c.due("piece(0, 3)", x.piece(0, 3), Checks.NONE);
        c.due("piece(0, max)", x.piece(0, Integer.MAX_VALUE), Checks.NONE);
        c.due("piece(0, -2)", x.piece(0, -2), Checks.BEYOND);
        c.due("piece(-1, 0)", x.piece(-1, 0), Checks.BEYOND);
        c.due("piece(1, 0)", x.piece(1, 0), Checks.BEYOND);
        c.due("piece(1, 99): BEYOND ahead of NONE", x.piece(1, 99), Checks.BEYOND);
        x.begin(1);
        c.due("first", x.piece(0, 0), 1);
        c.due("third", x.piece(0, 2), 150);
        c.due("three, the end in the JOINT behind them", x.piece(0, -1), 3);
        x.wall(1, 200);
        x.wall(0, 100);
        c.due("the first is cut off", x.piece(0, 0), 100);
        c.due("and alone", x.piece(0, -1), 1);
    }

    private static void rows() {
        FromTheMiddle x = new FromTheMiddle();
        x.wall(0, 120);
        x.wall(1, 51);
        x.wall(3, -9);
        x.wall(4, 8);
        x.wall(5, 1);
        int[] lengths = {120, 111, 102, 100, 100, 100, 100, 100};
        for (int k = 0; k < 8; k++) c.due("rowIs(" + k + ", 0)", x.rowIs(k, 0), lengths[k]);
        c.due("51 and 25, less 51", x.rowIs(1, 3), 25);
        c.due("the first of row 2", x.rowIs(2, 3), 51);
        x.begin(26);
        c.due("26 and 25 is not above 51", x.rowIs(7, 3), 51);
        x.begin(27);
        c.due("27 and 25 is above 51", x.rowIs(3, 3), 1);
        x.wall(5, 0);
        c.due("no BOND", x.rowIs(3, 3), 27);
        c.due("rowIs(8, 0)", x.rowIs(8, 0), Checks.BEYOND);
        c.due("rowIs(-1, 0)", x.rowIs(-1, 0), Checks.BEYOND);
        c.due("rowIs(0, 4)", x.rowIs(0, 4), Checks.BEYOND);
        c.due("rowIs(0, -1)", x.rowIs(0, -1), Checks.BEYOND);
    }

    private static void cuts() {
        FromTheMiddle x = new FromTheMiddle();
        x.wall(0, 200);
        x.wall(1, 60);
        x.begin(30);
        // 0..30, 32..92, 94..154, 156..200
        c.due("CUTS at both edges", x.rowIs(0, 1), 2);
        c.due("the narrowest", x.rowIs(0, 2), 30);
        x.begin(60);
        // 0..60, 62..122, 124..184, 186..200
        c.due("CUTS", x.rowIs(0, 1), 1);
        c.due("the narrowest", x.rowIs(0, 2), 14);
        x.wall(0, 184);
        c.due("no CUTS", x.rowIs(0, 1), 0);
        c.due("the narrowest", x.rowIs(0, 2), 60);
        x.wall(1, 200);
        x.wall(0, 150);
        c.due("one piece is one CUT", x.rowIs(0, 1), 1);
        c.due("the narrowest", x.rowIs(0, 2), 150);
        c.due("uncut it would be", x.rowIs(0, 3), 200);
    }

    public static void main(String[] args) {
        newObject();
        wall();
        begin();
        pieces();
        rows();
        cuts();
        c.end();
    }
}
