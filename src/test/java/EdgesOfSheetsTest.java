/** SHEETS that are missing, empty, full; bits that don't fit; numbers that are moved onto themselves (Promises 28 to 32). */
public final class EdgesOfSheetsTest {
    private static final Checks c = new Checks();
    private static final int MIN = Checks.MIN;
    private static final int MAX = Checks.MAX;

    private static FromTheMiddle withThings(int things) {
        FromTheMiddle x = new FromTheMiddle();
        for (int i = 0; i < things; i++) x.thing(0, 3001 + i, 1);
        return x;
    }

    /** The numbers of a SHEET, all of which must be 0 to 4000: each is moved to the front and becomes FROM of THING 0. */
    private static void holds(FromTheMiddle x, int sheet, int... numbers) {
        int bits = 0;
        for (int b : new int[] {8, 16, 32}) {
            x.sheet(3, b, 1);
            if (x.move(sheet, 0, 3, 0, 0) == 0) bits = b;
        }
        x.sheet(3, bits, 1);
        for (int i = 0; i < numbers.length; i++) {
            c.due("number " + i + " of SHEET " + sheet + " is there", x.move(sheet, i, 3, 0, 1), 1);
            x.hang(0, 4000);
            x.places(3);
            c.due("number " + i + " of SHEET " + sheet, x.thingIs(0, 2), numbers[i]);
        }
        c.due("no number " + numbers.length + " of SHEET " + sheet, x.move(sheet, numbers.length, 3, 0, 1), Checks.BEYOND);
    }

    private static void sheets() {
        c.says("SHEETS 0 .. 3 are rows of 8, 16, 32 bits, at most 24 numbers, or missing (as at first)");
        FromTheMiddle x = new FromTheMiddle();
        for (int s = 0; s < 4; s++) {
            c.due("judge(" + s + ")", x.judge(s), Checks.NONE);
            c.due("places(" + s + ")", x.places(s), Checks.NONE);
            c.due("fits(" + s + ", 0)", x.fits(s, 0), Checks.NONE);
            c.due("put(" + s + ", 0, 0)", x.put(s, 0, 0), Checks.NONE);
            c.due("move(" + s + ", 0, " + s + ", 0, 0)", x.move(s, 0, s, 0, 0), Checks.NONE);
        }
        for (int bits : new int[] {8, 16, 32}) {
            for (int s = 0; s < 4; s++) {
                c.due("none of " + bits, x.sheet(s, bits, 0), 1);
                c.due("an empty SHEET is not missing", x.judge(s), 0);
                c.due("but has no number", x.put(s, 0, 0), Checks.BEYOND);
                c.due("-1 of " + bits, x.sheet(s, bits, -1), Checks.STATE);
                c.due("least of " + bits, x.sheet(s, bits, MIN), Checks.STATE);
                c.due("1 of " + bits, x.sheet(s, bits, 1), 1);
                c.due("it has a number", x.put(s, 0, 0), 1);
                c.due("and no other", x.put(s, 1, 0), Checks.BEYOND);
                c.due("24 of " + bits, x.sheet(s, bits, 24), 1);
                c.due("the last", x.put(s, 23, 0), 1);
                c.due("none behind it", x.put(s, 24, 0), Checks.BEYOND);
                c.due("25 of " + bits, x.sheet(s, bits, 25), Checks.BEYOND);
                c.due("greatest of " + bits, x.sheet(s, bits, MAX), Checks.BEYOND);
                c.due("the 24 stay", x.put(s, 23, 0), 1);
            }
        }
    }

    private static void sheetErrors() {
        c.says("STATE: n is below 0 (ahead of BEYOND of n)");
        FromTheMiddle x = new FromTheMiddle();
        for (int s : new int[] {-1, 4, MIN, MAX}) {
            for (int n : new int[] {0, 1, -1, 25}) {
                for (int bits : new int[] {0, 8, 9}) c.due("sheet(" + s + ", " + bits + ", " + n + ")", x.sheet(s, bits, n), Checks.BEYOND);
            }
        }
        for (int bits : new int[] {-8, -1, 1, 4, 7, 9, 12, 15, 17, 24, 31, 33, 64, MIN, MAX}) {
            for (int n : new int[] {0, 1, -1, 25}) c.due("sheet(0, " + bits + ", " + n + ")", x.sheet(0, bits, n), Checks.BEYOND);
        }
        c.due("no STATE ahead of these", x.told(3), 0);
        c.says("0: it is missing, n doesn't matter");
        for (int n : new int[] {0, 1, 24, 25, -1, MIN, MAX}) {
            x.sheet(0, 8, 2);
            c.due("sheet(0, 0, " + n + ")", x.sheet(0, 0, n), 1);
            c.due("it is missing", x.judge(0), Checks.NONE);
            c.due("once more", x.sheet(0, 0, n), 1);
        }
        c.says("A SHEET has n numbers, all 0");
        FromTheMiddle y = withThings(1);
        y.sheet(0, 16, 3);
        for (int i = 0; i < 3; i++) y.put(0, i, 7);
        holds(y, 0, 7, 7, 7);
        c.due("as many once more", y.sheet(0, 16, 3), 1);
        holds(y, 0, 0, 0, 0);
        for (int i = 0; i < 3; i++) y.put(0, i, 7);
        c.due("fewer", y.sheet(0, 16, 1), 1);
        c.due("more", y.sheet(0, 16, 4), 1);
        holds(y, 0, 0, 0, 0, 0);
        for (int i = 0; i < 4; i++) y.put(0, i, 7);
        c.due("missing", y.sheet(0, 0, 0), 1);
        c.due("of other bits", y.sheet(0, 8, 2), 1);
        holds(y, 0, 0, 0);
    }

    /** What a SHEET of so many bits makes of a number that is put; -1 if it can't be FROM. */
    private static void put(int bits, int v, int want) {
        FromTheMiddle x = withThings(1);
        x.sheet(1, bits, 1);
        c.due("put of " + v, x.put(1, 0, v), 1);
        c.due("places() by " + v + " in " + bits + " bits", x.places(1), want < 0 ? 0 : 1);
        c.due("FROM by " + v + " in " + bits + " bits", x.thingIs(0, 2), want < 0 ? 3001 : want);
    }

    private static void puts() {
        c.says("Number i of a SHEET becomes v (its lowest bits)");
        put(8, 0, 0);
        put(8, 127, 127);
        put(8, 256, 0);
        put(8, 257, 1);
        put(8, -256, 0);
        put(8, -255, 1);
        put(8, -129, 127);
        put(8, 0x7FFFFF7F, 127);
        put(8, 0x80000001, 1);
        put(8, MIN, 0);
        put(8, -1, -1);
        // as Java's byte: from 128 on a number is below 0
        put(8, 128, -1);
        put(8, 200, -1);
        put(8, 255, -1);
        put(8, -128, -1);
        put(16, 4000, 4000);
        put(16, 4001, -1);
        put(16, 128, 128);
        put(16, 255, 255);
        put(16, 256, 256);
        put(16, 65536, 0);
        put(16, 65537, 1);
        put(16, 65535, -1);
        put(16, 32767, -1);
        put(16, 32768, -1);
        put(16, -65536, 0);
        put(16, -65535 + 3999, 4000);
        put(16, -1, -1);
        put(16, MIN, 0);
        put(16, 0x7FFF0FA0, 4000);
        put(32, 4000, 4000);
        put(32, 4001, -1);
        put(32, 65536, -1);
        put(32, 65537, -1);
        put(32, -65536, -1);
        put(32, MIN, -1);
        put(32, MAX, -1);
        put(32, -1, -1);
        c.says("BEYOND: no such SHEET. NONE: it is missing. BEYOND: no such number");
        FromTheMiddle x = withThings(1);
        x.sheet(1, 8, 3);
        for (int s : new int[] {-1, 4, MIN, MAX}) c.due("put(" + s + ", 0, 1)", x.put(s, 0, 1), Checks.BEYOND);
        for (int i : new int[] {0, -1, 24, MIN, MAX}) c.due("put(0, " + i + ", 1)", x.put(0, i, 1), Checks.NONE);
        for (int i : new int[] {-1, 3, 24, MIN, MAX}) c.due("put(1, " + i + ", 1)", x.put(1, i, 1), Checks.BEYOND);
        holds(x, 1, 0, 0, 0);
        c.due("the first", x.put(1, 0, 5), 1);
        c.due("the last", x.put(1, 2, 6), 1);
        holds(x, 1, 5, 0, 6);
    }

    private static FromTheMiddle five() {
        FromTheMiddle x = withThings(1);
        x.sheet(0, 16, 5);
        x.sheet(1, 16, 3);
        for (int i = 0; i < 5; i++) x.put(0, i, 10 + i);
        for (int i = 0; i < 3; i++) x.put(1, i, 20 + i);
        return x;
    }

    private static void moved(int i, int j, int n, int... want) {
        FromTheMiddle x = five();
        c.due("move(0, " + i + ", 0, " + j + ", " + n + ")", x.move(0, i, 0, j, n), n);
        holds(x, 0, want);
        holds(x, 1, 20, 21, 22);
    }

    private static void moves() {
        c.says("n numbers of a SHEET, from number i on, come to another one (or the same), from its number j on, as they all were: n");
        moved(0, 0, 5, 10, 11, 12, 13, 14);
        moved(0, 1, 4, 10, 10, 11, 12, 13);
        moved(1, 0, 4, 11, 12, 13, 14, 14);
        moved(0, 2, 3, 10, 11, 10, 11, 12);
        moved(2, 0, 3, 12, 13, 14, 13, 14);
        moved(0, 3, 2, 10, 11, 12, 10, 11);
        moved(4, 0, 1, 14, 11, 12, 13, 14);
        moved(0, 4, 1, 10, 11, 12, 13, 10);
        moved(5, 0, 0, 10, 11, 12, 13, 14);
        moved(0, 5, 0, 10, 11, 12, 13, 14);
        FromTheMiddle x = five();
        c.due("all of one", x.move(1, 0, 0, 2, 3), 3);
        holds(x, 0, 10, 11, 20, 21, 22);
        c.due("the last of the other", x.move(0, 2, 1, 0, 3), 3);
        c.due("none from behind the last to behind the last", x.move(0, 5, 1, 3, 0), 0);
        c.due("one", x.move(0, 0, 1, 2, 1), 1);
        holds(x, 1, 20, 21, 10);
        c.says("BEYOND: n, i, or j is below 0, or they don't stand there");
        int[][] wrong = {{0, 0, -1}, {5, 3, -1}, {0, 0, MIN}, {-1, 0, 0}, {-1, 0, 1}, {MIN, 0, 1}, {0, -1, 0}, {0, -1, 1}, {0, MIN, 1},
            {5, 0, 1}, {4, 0, 2}, {3, 0, 3}, {6, 0, 0}, {0, 3, 1}, {0, 2, 2}, {0, 1, 3}, {0, 0, 4}, {0, 4, 0}, {MAX, 0, 1}, {0, MAX, 1},
            {MAX, 0, 0}, {0, MAX, 0}, {0, 0, MAX}, {1, 0, MAX}, {MAX, MAX, MAX}, {-1, -1, -1}};
        for (int[] w : wrong) {
            c.due("move(0, " + w[0] + ", 1, " + w[1] + ", " + w[2] + ")", x.move(0, w[0], 1, w[1], w[2]), Checks.BEYOND);
        }
        holds(x, 0, 10, 11, 20, 21, 22);
        holds(x, 1, 20, 21, 10);
        c.due("the other way they don't stand there, either", x.move(1, 1, 0, 0, 3), Checks.BEYOND);
    }

    private static void moveErrors() {
        c.says("BEYOND: no such SHEET. NONE: one is missing. KIND: they are of unlike bits. BEYOND: ..");
        FromTheMiddle x = new FromTheMiddle();
        int[] bits = {8, 16, 32};
        for (int s = 0; s < 3; s++) x.sheet(s, bits[s], 2);
        for (int no : new int[] {-1, 4, MIN, MAX}) {
            for (int s = 0; s < 4; s++) {
                c.due("move(" + no + ", 0, " + s + ", 0, 1)", x.move(no, 0, s, 0, 1), Checks.BEYOND);
                c.due("move(" + s + ", 0, " + no + ", 0, 1)", x.move(s, 0, no, 0, 1), Checks.BEYOND);
            }
        }
        for (int s = 0; s < 4; s++) {
            for (int n : new int[] {0, 1, -1, 25}) {
                c.due("move(" + s + ", 0, 3, 0, " + n + ")", x.move(s, 0, 3, 0, n), Checks.NONE);
                c.due("move(3, 0, " + s + ", 0, " + n + ")", x.move(3, 0, s, 0, n), Checks.NONE);
            }
        }
        for (int s = 0; s < 3; s++) {
            for (int other = 0; other < 3; other++) {
                for (int n : new int[] {0, 1, 2, 3, -1}) {
                    int want = s != other ? Checks.KIND : n < 0 || n > 2 ? Checks.BEYOND : n;
                    c.due("move(" + s + ", 0, " + other + ", 0, " + n + ")", x.move(s, 0, other, 0, n), want);
                }
            }
        }
        c.due("another one of the same bits", x.sheet(3, 32, 2), 1);
        c.due("is of its KIND", x.move(2, 0, 3, 0, 2), 2);
        c.due("empty ones, too", x.sheet(3, 8, 0), 1);
        c.due("are of a KIND", x.move(3, 0, 2, 0, 0), Checks.KIND);
    }

    /** FROM of 6 THINGS by a SHEET of 32 bits. */
    private static void placed(int things, int many, int... numbers) {
        FromTheMiddle x = withThings(things);
        x.sheet(2, 32, numbers.length);
        for (int i = 0; i < numbers.length; i++) x.put(2, i, numbers[i]);
        c.due("places(2) of " + numbers.length + " numbers, with " + things + " THINGS", x.places(2), many);
        for (int i = 0; i < things; i++) c.due("FROM of " + i, x.thingIs(i, 2), i < many ? numbers[i] : 3001 + i);
        for (int k = 1; k <= 6; k++) c.due("no ERROR: told(" + k + ")", x.told(k), 0);
    }

    private static void places() {
        c.says("how many, up to the first that is not 0 to 4000 (no ERROR then), or for which there is no THING");
        placed(6, 0);
        placed(0, 0);
        placed(0, 0, 1, 2);
        placed(1, 1, 0);
        placed(1, 1, 4000);
        placed(1, 0, 4001);
        placed(1, 0, -1);
        placed(1, 0, MIN);
        placed(1, 0, MAX);
        placed(1, 1, 5, 6);
        placed(2, 2, 5, 6);
        placed(2, 1, 5, -1);
        placed(2, 0, 4001, 7);
        placed(3, 1, 5, 4001, 7);
        placed(6, 5, 0, 1, 2, 3, 4, -1, 6);
        placed(6, 6, 0, 1, 2, 3, 4, 5);
        placed(6, 6, 0, 1, 2, 3, 4, 5, 6);
        placed(5, 5, 0, 1, 2, 3, 4, 5);
        FromTheMiddle x = withThings(1);
        for (int s : new int[] {-1, 4, MIN, MAX}) c.due("places(" + s + ")", x.places(s), Checks.BEYOND);
        c.due("places(3): missing", x.places(3), Checks.NONE);
    }

    private static void judged(FromTheMiddle x, int right, int... widths) {
        x.sheet(3, 16, widths.length);
        for (int i = 0; i < widths.length; i++) x.put(3, i, widths[i]);
        c.due("judge(3) of " + widths.length + " numbers", x.judge(3), right);
    }

    private static void judge() {
        c.says("Numbers of a SHEET are widths of the pieces of row 0: how many are right, from the first on");
        FromTheMiddle x = Checks.wall(320, 100, 2);
        x.begin(60);
        x.wall(4, 2);
        x.wall(5, 1);
        // row 0: 60, 100, 100, 54
        judged(x, 0);
        judged(x, 1, 60);
        judged(x, 0, 59);
        judged(x, 0, 61);
        judged(x, 0, 10);
        judged(x, 0, -60);
        judged(x, 2, 60, 100);
        judged(x, 1, 60, 99, 100, 54);
        judged(x, 0, 0, 100, 100, 54);
        judged(x, 3, 60, 100, 100, 53);
        judged(x, 3, 60, 100, 100, 100);
        judged(x, 4, 60, 100, 100, 54);
        judged(x, 4, 60, 100, 100, 54, 0);
        judged(x, 4, 60, 100, 100, 54, 100);
        c.due("nothing is changed by that", x.wallIs(6), 60);
        FromTheMiddle y = Checks.wall(1200, 50, 0);
        int[] all = new int[24];
        java.util.Arrays.fill(all, 50);
        judged(y, 24, all);
        y.wall(0, 1201);
        judged(y, 24, all);
        y.wall(0, 1199);
        judged(y, 23, all);
        y.wall(0, 1150);
        judged(y, 23, all);
        for (int s : new int[] {-1, 4, MIN, MAX}) c.due("judge(" + s + ")", y.judge(s), Checks.BEYOND);
        c.due("judge(2): missing", y.judge(2), Checks.NONE);
        FromTheMiddle cutOff = Checks.wall(100, 200, 0);
        judged(cutOff, 1, 100);
        judged(cutOff, 0, 200);
    }

    public static void main(String[] args) {
        sheets();
        sheetErrors();
        puts();
        moves();
        moveErrors();
        places();
        judge();
        c.end();
    }
}
