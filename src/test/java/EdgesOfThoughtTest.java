/** What is only thought, at its edges: ties, none, all, one by one (Promises 20 to 25). */
public final class EdgesOfThoughtTest {
    private static final Checks c = new Checks();
    private static final int MIN = Checks.MIN;
    private static final int MAX = Checks.MAX;

    private static FromTheMiddle wall(int length, int tile, int joint) {
        return Checks.wall(length, tile, joint);
    }

    private static void best(FromTheMiddle x, int start, int narrowest, int cuts) {
        String on = "LENGTH " + x.wallIs(0) + ", TILE " + x.wallIs(1) + ", JOINT " + x.wallIs(2) + ": ";
        c.due(on + "best(0)", x.best(0), start);
        c.due(on + "best(1)", x.best(1), narrowest);
        c.due(on + "best(2)", x.best(2), cuts);
        c.due("best(3)", x.best(3), Checks.BEYOND);
        c.due("best(-1)", x.best(-1), Checks.BEYOND);
    }

    private static void best() {
        c.says("BEST: the START (1 .. TILE) by which the NARROWEST piece of all ROWS is widest");
        // START is TILE: all are whole
        best(wall(100, 50, 0), 50, 50, 0);
        best(wall(102, 50, 2), 50, 50, 0);
        best(wall(100, 100, 9), 100, 100, 0);
        best(wall(200, 200, 0), 200, 200, 0);
        // one piece is wider than any two
        best(wall(100, 200, 0), 100, 100, 1);
        best(wall(100, 101, 0), 100, 100, 1);
        best(wall(199, 200, 9), 199, 199, 1);
        // 50, 100, 51, or 51, 100, 50
        best(wall(201, 100, 0), 50, 50, 2);
        c.says("of several that with the fewest CUTS in all ROWS, of these the least");
        best(wall(101, 80, 0), 50, 50, 2);
        best(wall(100, 80, 0), 50, 50, 2);
        // 99 and 100, 100 and 99: one CUT by both
        best(wall(199, 100, 0), 99, 99, 1);
        best(wall(100, 51, 0), 50, 50, 2);
        FromTheMiddle x = wall(107, 52, 2);
        x.wall(3, -2);
        x.wall(4, 2);
        best(x, 52, 51, 1);
        x.wall(4, 1);
        x.wall(0, 105);
        best(x, 51, 51, 1);
        c.says("All this is only thought");
        x.begin(9);
        best(x, 51, 51, 1);
        c.due("START stays", x.wallIs(6), 9);
    }

    private static void calm(FromTheMiddle x, int start, int harm) {
        c.due("calm(0)", x.calm(0), start);
        c.due("calm(1)", x.calm(1), harm);
        c.due("calm(2)", x.calm(2), Checks.BEYOND);
        c.due("calm(-1)", x.calm(-1), Checks.BEYOND);
    }

    private static void calm() {
        c.says("CALM: the START by which HARM of all THINGS on all ROWS together is least; of several the least");
        calm(new FromTheMiddle(), 1, 0);
        FromTheMiddle x = wall(100, 60, 2);
        x.wall(4, 8);
        calm(x, 1, 0);
        x.begin(60);
        calm(x, 1, 0);
        // no JOINT is ever at 4000: HARM is 1 on 8 ROWS by all STARTS
        x.thing(0, 4000, 1);
        calm(x, 1, 8);
        x.thing(0, 4000, 1);
        calm(x, 1, 16);
        c.due("START stays", x.wallIs(6), 60);
        // a JOINT of 2 meets 59 to 60 from START 57 on, 60 to 61 from 58, 61 to 62 from 59
        for (int start = 57; start <= 59; start++) {
            FromTheMiddle y = wall(100, 60, 2);
            y.thing(0, start + 2, 1);
            calm(y, start, 0);
        }
        FromTheMiddle last = wall(100, 50, 0);
        last.thing(30, 0, 49);
        Checks.text(last, 1, "0-h");
        c.due("by START 50 alone no CUT is hidden", last.calm(0), 50);
        FromTheMiddle first = wall(100, 50, 0);
        first.thing(0, 0, 1);
        // by START 1 alone a JOINT is at 0 to 1; by 2 and 3 one is at 2 to 3
        calm(first, 1, 0);
        first.hang(0, 2);
        calm(first, 2, 0);
        FromTheMiddle two = wall(300, 100, 0);
        // START 29 and 30 have a JOINT at one THING, 69 to 71 at the two others; then HARM of the first is made more
        two.thing(0, 29, 1);
        two.thing(0, 169, 2);
        two.thing(0, 69, 2);
        calm(two, 69, 1);
        two.become(0, 9);
        Checks.text(two, 1, "h*(n=0)*3+h");
        calm(two, 29, 2);
    }

    private static void cheat(int length, int tile, int joint, int tiles) {
        FromTheMiddle x = wall(length, tile, 5);
        String on = "LENGTH " + length + ", TILE " + tile + ": ";
        c.due(on + "cheat(0)", x.cheat(0), joint);
        c.due(on + "cheat(1)", x.cheat(1), tiles);
        for (int what : new int[] {-1, 2, MIN, MAX}) c.due("cheat(" + what + "): BEYOND ahead of NONE", x.cheat(what), Checks.BEYOND);
        c.due("JOINT stays", x.wallIs(2), 5);
    }

    private static void cheat() {
        c.says("CHEAT: the least JOINT (0 .. 9) by which whole TILES and JOINTS between them are just LENGTH; how many");
        cheat(100, 50, 0, 2);
        cheat(101, 50, 1, 2);
        cheat(108, 50, 8, 2);
        cheat(109, 50, 9, 2);
        cheat(110, 50, Checks.NONE, Checks.NONE);
        cheat(149, 50, Checks.NONE, Checks.NONE);
        cheat(150, 50, 0, 3);
        cheat(151, 50, Checks.NONE, Checks.NONE);
        cheat(152, 50, 1, 3);
        cheat(168, 50, 9, 3);
        cheat(169, 50, Checks.NONE, Checks.NONE);
        cheat(170, 50, Checks.NONE, Checks.NONE);
        cheat(200, 200, 0, 1);
        cheat(199, 200, Checks.NONE, Checks.NONE);
        cheat(201, 200, Checks.NONE, Checks.NONE);
        cheat(100, 200, Checks.NONE, Checks.NONE);
        cheat(400, 200, 0, 2);
        cheat(409, 200, 9, 2);
        cheat(410, 200, Checks.NONE, Checks.NONE);
        cheat(4000, 50, 0, 80);
        cheat(3999, 50, Checks.NONE, Checks.NONE);
        cheat(4000, 200, 0, 20);
        // 70 TILES and 69 JOINTS
        cheat(3569, 50, 1, 70);
        // 10 TILES and 9 JOINTS; 9 TILES and 8 JOINTS
        cheat(509, 50, 1, 10);
        cheat(518, 50, 2, 10);
        cheat(581, 50, 9, 10);
        cheat(522, 50, 9, 9);
        // 12 TILES by JOINT 0, 11 by 5; 29 by 4, 28 by 6; 60 by 8, 59 by 9
        cheat(600, 50, 0, 12);
        cheat(1562, 50, 4, 29);
        cheat(3472, 50, 8, 60);
    }

    private static void middle(int length, int tile, int joint, int jointThere, int tileThere) {
        FromTheMiddle x = wall(length, tile, joint);
        x.begin(3);
        String on = "LENGTH " + length + ", TILE " + tile + ", JOINT " + joint + ": ";
        c.due(on + "middle(0)", x.middle(0), jointThere);
        c.due(on + "middle(1)", x.middle(1), tileThere);
        c.due("START stays", x.wallIs(6), 3);
        for (int what : new int[] {-1, 2, MIN, MAX}) c.due("middle(" + what + ")", x.middle(what), Checks.BEYOND);
    }

    private static void middle() {
        c.says("MIDDLE: .. by TILE and JOINT together; TILE, if that is below 1, or above TILE");
        middle(100, 50, 0, 50, 25);
        middle(101, 50, 0, 50, 25);
        middle(102, 50, 0, 1, 26);
        middle(103, 50, 0, 1, 26);
        middle(104, 50, 0, 2, 27);
        middle(198, 50, 0, 49, 24);
        middle(200, 50, 0, 50, 25);
        // by JOINT 9 what is left is 0 to 58
        middle(225, 50, 9, 49, 19);
        middle(227, 50, 9, 50, 20);
        middle(229, 50, 9, 50, 21);
        middle(231, 50, 9, 50, 22);
        middle(243, 50, 9, 50, 28);
        middle(245, 50, 9, 50, 29);
        middle(247, 50, 9, 1, 30);
        middle(249, 50, 9, 2, 31);
        // a TILE in the middle, with nothing, 1, 2 beside it, or less than nothing
        middle(100, 100, 0, 50, 100);
        middle(101, 100, 0, 50, 100);
        middle(102, 100, 0, 51, 1);
        middle(104, 100, 0, 52, 2);
        middle(104, 100, 2, 51, 100);
        middle(105, 100, 2, 51, 100);
        middle(106, 100, 2, 52, 1);
        middle(100, 100, 2, 49, 100);
        middle(100, 101, 0, 50, 101);
        middle(100, 102, 0, 50, 102);
        middle(100, 200, 9, 45, 200);
        middle(298, 100, 0, 49, 99);
        middle(300, 100, 0, 50, 100);
        middle(302, 100, 1, 49, 100);
        middle(304, 100, 1, 50, 100);
        middle(306, 100, 1, 51, 1);
        middle(4000, 200, 9, 114, 10);
    }

    private static void odds(FromTheMiddle x, int v, int above, int below) {
        c.due("odds(" + v + ", 0)", x.odds(v, 0), above);
        c.due("odds(" + v + ", 1)", x.odds(v, 1), below);
        for (int part : new int[] {-1, 2, MIN, MAX}) c.due("odds(" + v + ", " + part + ")", x.odds(v, part), Checks.BEYOND);
    }

    private static void odds() {
        c.says("ODDS: that the NARROWEST piece of all ROWS is v or more: a fraction in lowest terms (0 is 0 by 1)");
        FromTheMiddle x = wall(200, 200, 0);
        // the narrower one of START and 200 less START, or 200 whole
        odds(x, 0, 1, 1);
        odds(x, 1, 1, 1);
        odds(x, 2, 99, 100);
        odds(x, 3, 49, 50);
        odds(x, 99, 1, 50);
        odds(x, 100, 1, 100);
        odds(x, 101, 1, 200);
        odds(x, 199, 1, 200);
        odds(x, 200, 1, 200);
        for (int v : new int[] {-1, 201, MIN, MAX}) {
            c.due("odds(" + v + ", 0)", x.odds(v, 0), Checks.BEYOND);
            c.due("odds(" + v + ", 1)", x.odds(v, 1), Checks.BEYOND);
        }
        x.wall(1, 199);
        // 198 and 2, 199 and 1, and so on: no NARROWEST is 200
        odds(x, 200, 0, 1);
        odds(x, 100, 1, 199);
        odds(x, 101, 0, 1);
        odds(x, 0, 1, 1);
        FromTheMiddle one = wall(100, 200, 0);
        odds(one, 100, 101, 200);
        odds(one, 101, 0, 1);
        odds(one, 51, 101, 200);
        odds(one, 50, 51, 100);
        FromTheMiddle rows = wall(100, 50, 0);
        rows.wall(4, 2);
        rows.wall(3, 1);
        // row 0: START and 50 less START; row 1: START and 51 less START, but 1 by START 50
        odds(rows, 1, 1, 1);
        odds(rows, 2, 47, 50);
        odds(rows, 25, 1, 50);
        odds(rows, 26, 0, 1);
    }

    private static void fill(FromTheMiddle x, int sheet, int bits, int... widths) {
        x.sheet(sheet, bits, widths.length);
        for (int i = 0; i < widths.length; i++) x.put(sheet, i, widths[i]);
    }

    private static void fits(FromTheMiddle x, int sheet, int many, int least) {
        String on = "LENGTH " + x.wallIs(0) + ", TILE " + x.wallIs(1) + ": ";
        c.due(on + "fits(" + sheet + ", 0)", x.fits(sheet, 0), many);
        c.due(on + "fits(" + sheet + ", 1)", x.fits(sheet, 1), least);
        for (int what : new int[] {-1, 2, MIN, MAX}) c.due("fits(" + sheet + ", " + what + ")", x.fits(sheet, what), Checks.BEYOND);
    }

    private static void fits() {
        c.says("FITS: by how many STARTS they are so (there may be more of them behind); the least");
        FromTheMiddle x = wall(1200, 50, 0);
        for (int sheet : new int[] {-1, 4, MIN, MAX}) c.due("fits(" + sheet + ", 0)", x.fits(sheet, 0), Checks.BEYOND);
        c.due("the SHEET is missing", x.fits(0, 0), Checks.NONE);
        c.due("the SHEET is missing", x.fits(0, 1), Checks.NONE);
        c.due("BEYOND is asked ahead of that", x.fits(0, 2), Checks.BEYOND);
        fill(x, 0, 8);
        fits(x, 0, 50, 1);
        x.wall(1, 200);
        fits(x, 0, 200, 1);
        x.wall(1, 50);
        int[] all = new int[24];
        java.util.Arrays.fill(all, 50);
        fill(x, 0, 8, all);
        // 24 TILES: just as many, one more, the last one cut, one less
        fits(x, 0, 1, 50);
        x.wall(0, 1201);
        fits(x, 0, 1, 50);
        x.wall(0, 1199);
        fits(x, 0, 0, Checks.NONE);
        x.wall(0, 1150);
        fits(x, 0, 0, Checks.NONE);
        fill(x, 0, 8, 0);
        fits(x, 0, 0, Checks.NONE);
        for (int first : new int[] {1, 2, 49, 50}) {
            fill(x, 1, 16, first);
            fits(x, 1, 1, first);
            fill(x, 1, 16, first, 50);
            fits(x, 1, 1, first);
            fill(x, 1, 16, first, 49);
            fits(x, 1, 0, Checks.NONE);
        }
        for (int first : new int[] {0, -1, 51, 0x10000 + 52}) {
            fill(x, 1, 32, first);
            fits(x, 1, 0, Checks.NONE);
        }
        FromTheMiddle one = wall(100, 200, 9);
        // one piece: START is 91 to 99, or 100 and more, which is cut off
        fill(one, 3, 8, 100);
        fits(one, 3, 101, 100);
        fill(one, 3, 8, 99);
        fits(one, 3, 1, 99);
        fill(one, 3, 8, 90);
        fits(one, 3, 1, 90);
        fill(one, 3, 8, 90, 1);
        fits(one, 3, 1, 90);
        fill(one, 3, 8, 91, 1);
        fits(one, 3, 0, Checks.NONE);
        fill(one, 3, 8, 100, 1);
        fits(one, 3, 0, Checks.NONE);
        c.says("a SHEET tells widths of pieces of row 0");
        FromTheMiddle rows = wall(100, 60, 0);
        rows.wall(4, 2);
        rows.wall(5, 1);
        fill(rows, 0, 8, 50, 50);
        fits(rows, 0, 1, 50);
    }

    public static void main(String[] args) {
        best();
        calm();
        cheat();
        middle();
        odds();
        fits();
        c.end();
    }
}
