/** Where rows, pieces, CUTS and HALVES begin and end (Promises 14, 15, and of 17 what is counted). */
public final class LaidTest {
    private static final Checks c = new Checks();

    private static void rowLength(int length, int skew, int... want) {
        FromTheMiddle x = Checks.wall(length, 150, 2);
        x.wall(3, skew);
        x.wall(4, want.length);
        for (int k = 0; k < want.length; k++) {
            c.due("LENGTH " + length + ", SKEW " + skew + ": rowIs(" + k + ", 0)", x.rowIs(k, 0), want[k]);
        }
        c.due("no row behind the last", x.rowIs(want.length, 0), Checks.BEYOND);
        c.due("no row ahead of the first", x.rowIs(-1, 0), Checks.BEYOND);
        c.due("no piece behind the last row", x.piece(want.length, -1), Checks.BEYOND);
        c.due("no piece ahead of the first row", x.piece(-1, -1), Checks.BEYOND);
    }

    private static void lengths() {
        c.says("Row k (0, 1, ..) is as long as LENGTH and k times SKEW, 100 at least");
        rowLength(100, 0, 100);
        rowLength(100, -9, 100, 100);
        rowLength(100, 1, 100, 101, 102);
        rowLength(101, -1, 101, 100, 100, 100);
        rowLength(102, -1, 102, 101, 100, 100);
        rowLength(162, -9, 162, 153, 144, 135, 126, 117, 108, 100);
        rowLength(163, -9, 163, 154, 145, 136, 127, 118, 109, 100);
        rowLength(164, -9, 164, 155, 146, 137, 128, 119, 110, 101);
        rowLength(4000, 9, 4000, 4009, 4018, 4027, 4036, 4045, 4054, 4063);
        rowLength(4000, -9, 4000, 3991, 3982, 3973, 3964, 3955, 3946, 3937);
        // a row is laid as long as that, too
        FromTheMiddle x = Checks.wall(100, 200, 0);
        x.wall(4, 2);
        x.wall(3, -9);
        c.due("a piece of a row that would be 91", x.piece(1, 0), 100);
        x.wall(3, 9);
        c.due("of a row of 109", x.piece(1, 0), 109);
    }

    private static void firstPiece(int tile, int start, int want) {
        FromTheMiddle x = Checks.wall(2000, tile, 2);
        x.wall(4, 8);
        x.begin(start);
        String on = "TILE " + tile + ", START " + start;
        for (int k = 0; k < 8; k++) {
            c.due(on + ", BOND 0: rowIs(" + k + ", 3)", x.rowIs(k, 3), start);
            c.due(on + ", BOND 0: piece(" + k + ", 0)", x.piece(k, 0), start);
        }
        x.wall(5, 1);
        for (int k = 0; k < 8; k++) {
            c.due(on + ", BOND 1: rowIs(" + k + ", 3)", x.rowIs(k, 3), k % 2 == 0 ? start : want);
            c.due(on + ", BOND 1: piece(" + k + ", 0)", x.piece(k, 0), k % 2 == 0 ? start : want);
        }
    }

    private static void firstPieces() {
        c.says("by BOND 1 in rows 1, 3, .. START and the half of TILE (cut), less TILE, if that is above TILE");
        firstPiece(50, 1, 26);
        firstPiece(50, 24, 49);
        firstPiece(50, 25, 50);
        firstPiece(50, 26, 1);
        firstPiece(50, 50, 25);
        firstPiece(51, 1, 26);
        firstPiece(51, 25, 50);
        firstPiece(51, 26, 51);
        firstPiece(51, 27, 1);
        firstPiece(51, 51, 25);
        firstPiece(199, 100, 199);
        firstPiece(199, 101, 1);
        firstPiece(200, 100, 200);
        firstPiece(200, 101, 1);
        firstPiece(200, 200, 100);
    }

    /** All pieces of row 0, and that there are no more. */
    private static void laid(FromTheMiddle x, int start, int... want) {
        x.begin(start);
        String on = "LENGTH " + x.wallIs(0) + ", TILE " + x.wallIs(1) + ", JOINT " + x.wallIs(2) + ", START " + start + ": ";
        c.due(on + "pieces", x.piece(0, -1), want.length);
        for (int i = 0; i < want.length; i++) c.due(on + "piece(0, " + i + ")", x.piece(0, i), want[i]);
        c.due(on + "behind the last piece", x.piece(0, want.length), Checks.NONE);
    }

    private static void aheadOfTheEnd() {
        c.says("as long as pieces begin ahead of the row's end; what would stand beyond it is cut off");
        // by JOINT 0 the end of a piece is where the next one begins
        laid(Checks.wall(100, 50, 0), 50, 50, 50);
        laid(Checks.wall(101, 50, 0), 50, 50, 50, 1);
        laid(Checks.wall(149, 50, 0), 50, 50, 50, 49);
        laid(Checks.wall(150, 50, 0), 50, 50, 50, 50);
        laid(Checks.wall(100, 50, 0), 49, 49, 50, 1);
        laid(Checks.wall(100, 50, 0), 1, 1, 50, 49);
        // 0..50, 52..102, 104: the end in a piece, in a JOINT, where a piece would begin, and 1 behind that
        laid(Checks.wall(101, 50, 2), 50, 50, 49);
        laid(Checks.wall(102, 50, 2), 50, 50, 50);
        laid(Checks.wall(103, 50, 2), 50, 50, 50);
        laid(Checks.wall(104, 50, 2), 50, 50, 50);
        laid(Checks.wall(105, 50, 2), 50, 50, 50, 1);
        // the widest JOINT, behind the first piece
        laid(Checks.wall(100, 100, 9), 89, 89, 2);
        laid(Checks.wall(100, 100, 9), 90, 90, 1);
        laid(Checks.wall(100, 100, 9), 91, 91);
        laid(Checks.wall(100, 100, 9), 99, 99);
        laid(Checks.wall(100, 100, 9), 100, 100);
        laid(Checks.wall(100, 100, 0), 99, 99, 1);
        laid(Checks.wall(100, 100, 0), 100, 100);
        // the first piece is cut off, too
        laid(Checks.wall(100, 101, 0), 101, 100);
        laid(Checks.wall(100, 200, 9), 200, 100);
        laid(Checks.wall(100, 200, 0), 100, 100);
        laid(Checks.wall(100, 200, 0), 99, 99, 1);
        laid(Checks.wall(100, 200, 0), 1, 1, 99);
        laid(Checks.wall(201, 200, 0), 200, 200, 1);
        laid(Checks.wall(200, 200, 0), 200, 200);
    }

    private static void most() {
        c.says("-1 how many pieces, else how wide the i-th (from 0) is");
        FromTheMiddle x = Checks.wall(4000, 50, 0);
        c.due("80 TILES", x.piece(0, -1), 80);
        c.due("the last one is whole", x.piece(0, 79), 50);
        c.due("no 81st", x.piece(0, 80), Checks.NONE);
        x.begin(1);
        c.due("81 pieces", x.piece(0, -1), 81);
        c.due("the last", x.piece(0, 80), 49);
        c.due("no 82nd", x.piece(0, 81), Checks.NONE);
        x.wall(4, 8);
        x.wall(3, 9);
        c.due("1, 81 TILES and 12", x.piece(7, -1), 83);
        c.due("the first", x.piece(7, 0), 1);
        c.due("the second", x.piece(7, 1), 50);
        c.due("the last", x.piece(7, 82), 12);
        c.due("no 84th", x.piece(7, 83), Checks.NONE);
        c.due("no -2nd", x.piece(7, -2), Checks.BEYOND);
        c.due("the least i", x.piece(7, Checks.MIN), Checks.BEYOND);
        c.due("the greatest i", x.piece(7, Checks.MAX), Checks.NONE);
    }

    private static void edges(FromTheMiddle x, int start, int cuts, int narrowest, int halves) {
        x.begin(start);
        String on = "LENGTH " + x.wallIs(0) + ", TILE " + x.wallIs(1) + ", JOINT " + x.wallIs(2) + ", START " + start + ": ";
        c.due(on + "CUTS", x.rowIs(0, 1), cuts);
        c.due(on + "CUTS of all ROWS", x.buy(2), cuts);
        c.due(on + "the narrowest piece", x.rowIs(0, 2), narrowest);
        c.due(on + "the NARROWEST", x.buy(3), narrowest);
        c.due(on + "HALVES", x.buy(4), halves);
    }

    private static void cuts() {
        c.says("A CUT is a piece narrower than TILE");
        edges(Checks.wall(200, 100, 0), 100, 0, 100, 0);
        edges(Checks.wall(199, 100, 0), 100, 1, 99, 0);
        edges(Checks.wall(199, 100, 0), 99, 1, 99, 0);
        edges(Checks.wall(198, 100, 0), 99, 2, 99, 0);
        edges(Checks.wall(201, 100, 0), 100, 1, 1, 1);
        edges(Checks.wall(200, 100, 0), 1, 2, 1, 1);
        edges(Checks.wall(202, 100, 2), 100, 0, 100, 0);
        edges(Checks.wall(201, 100, 2), 100, 1, 99, 0);
        // one piece alone is one CUT, or none
        edges(Checks.wall(100, 100, 0), 100, 0, 100, 0);
        edges(Checks.wall(100, 101, 0), 101, 1, 100, 0);
        edges(Checks.wall(100, 100, 9), 99, 1, 99, 0);
        c.says("2 the narrowest piece");
        edges(Checks.wall(150, 100, 0), 70, 2, 70, 0);
        edges(Checks.wall(150, 100, 0), 80, 2, 70, 0);
        edges(Checks.wall(150, 100, 0), 75, 2, 75, 0);
        c.says("3 its first piece as it would be uncut");
        FromTheMiddle x = Checks.wall(100, 200, 0);
        for (int start : new int[] {1, 99, 100, 101, 200}) {
            x.begin(start);
            c.due("START " + start, x.rowIs(0, 3), start);
        }
    }

    private static void halves() {
        c.says("A HALF is a piece twice as wide as which, and 3, is TILE or less");
        // of TILES of 100 a HALF is 48 wide at most, of 101 and 102 it is 49, of 50 it is 23
        edges(Checks.wall(200, 100, 0), 48, 2, 48, 1);
        edges(Checks.wall(200, 100, 0), 49, 2, 49, 0);
        edges(Checks.wall(200, 100, 0), 51, 2, 49, 0);
        edges(Checks.wall(200, 100, 0), 52, 2, 48, 1);
        edges(Checks.wall(196, 100, 0), 48, 2, 48, 2);
        edges(Checks.wall(202, 101, 0), 49, 2, 49, 1);
        edges(Checks.wall(202, 101, 0), 50, 2, 50, 0);
        edges(Checks.wall(204, 102, 0), 49, 2, 49, 1);
        edges(Checks.wall(204, 102, 0), 50, 2, 50, 0);
        edges(Checks.wall(100, 50, 0), 23, 2, 23, 1);
        edges(Checks.wall(100, 50, 0), 24, 2, 24, 0);
        edges(Checks.wall(100, 51, 0), 24, 2, 24, 1);
        edges(Checks.wall(100, 200, 0), 98, 2, 2, 2);
        edges(Checks.wall(100, 200, 0), 99, 2, 1, 1);
        // one piece alone: it is no wider than the row
        edges(Checks.wall(100, 200, 0), 200, 1, 100, 0);
        edges(Checks.wall(100, 200, 9), 98, 1, 98, 1);
        edges(Checks.wall(100, 200, 9), 99, 1, 99, 0);
    }

    public static void main(String[] args) {
        lengths();
        firstPieces();
        aheadOfTheEnd();
        most();
        cuts();
        halves();
        c.end();
    }
}
