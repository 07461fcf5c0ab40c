/** Promises 28 to 32: SHEETS. */
public final class SheetsTest {
    private static final Checks c = new Checks();

    /** What a SHEET's first numbers are, as far as they can be FROM. */
    private static void from(FromTheMiddle x, int sheet, int... numbers) {
        FromTheMiddle y = x;
        while (y.count(0) < 6) y.thing(0, 0, 1);
        c.due("places(" + sheet + ")", y.places(sheet), numbers.length);
        for (int i = 0; i < numbers.length; i++) c.due("number " + i + " of " + sheet, y.thingIs(i, 2), numbers[i]);
    }

    private static void sheet() {
        FromTheMiddle x = new FromTheMiddle();
        c.due("sheet(4, 8, 1)", x.sheet(4, 8, 1), Checks.BEYOND);
        c.due("sheet(-1, 8, 1)", x.sheet(-1, 8, 1), Checks.BEYOND);
        for (int bits : new int[] {-8, 1, 7, 9, 24, 64}) c.due("bits " + bits, x.sheet(0, bits, 1), Checks.BEYOND);
        c.due("BEYOND ahead of STATE", x.sheet(0, 7, -1), Checks.BEYOND);
        c.due("BEYOND ahead of STATE", x.sheet(4, 8, -1), Checks.BEYOND);
        c.due("sheet(0, 8, -1)", x.sheet(0, 8, -1), Checks.STATE);
        c.due("sheet(0, 32, min)", x.sheet(0, 32, Integer.MIN_VALUE), Checks.STATE);
        c.due("sheet(0, 16, 25)", x.sheet(0, 16, 25), Checks.BEYOND);
        c.due("still missing", x.judge(0), Checks.NONE);
        c.due("sheet(0, 16, 24)", x.sheet(0, 16, 24), 1);
        c.due("put(0, 23, 1)", x.put(0, 23, 1), 1);
        c.due("put(0, 0, 1)", x.put(0, 0, 5), 1);
        c.due("an ERROR leaves it", x.sheet(0, 16, 25), Checks.BEYOND);
        from(x, 0, 5, 0, 0, 0, 0, 0);
        c.due("made anew", x.sheet(0, 16, 3), 1);
        from(x, 0, 0, 0, 0);
        c.due("missing: n doesn't matter", x.sheet(0, 0, -1), 1);
        c.due("missing: n doesn't matter", x.sheet(0, 0, 99), 1);
        c.due("missing", x.places(0), Checks.NONE);
    }

    private static void put() {
        FromTheMiddle x = new FromTheMiddle();
        c.due("put(4, 0, 1)", x.put(4, 0, 1), Checks.BEYOND);
        c.due("put(-1, 0, 1)", x.put(-1, 0, 1), Checks.BEYOND);
        c.due("put(0, -1, 1): missing", x.put(0, -1, 1), Checks.NONE);
        x.sheet(0, 8, 2);
        x.sheet(1, 16, 2);
        x.sheet(2, 32, 2);
        c.due("put(0, 2, 1)", x.put(0, 2, 1), Checks.BEYOND);
        c.due("put(0, -1, 1)", x.put(0, -1, 1), Checks.BEYOND);
        for (int s = 0; s < 3; s++) {
            c.due("put", x.put(s, 0, 0x10064), 1);
            c.due("put", x.put(s, 1, 0x1007F), 1);
        }
        from(x, 0, 0x64, 0x7F);
        from(x, 1, 0x64, 0x7F);
        from(x, 2);
        x.put(0, 0, 127);
        x.put(0, 1, 200);
        // a number of 8 bits is as Java's byte: 200 is below 0
        from(x, 0, 127);
        x.put(1, 0, 4000);
        x.put(1, 1, -1);
        from(x, 1, 4000);
    }

    private static void move() {
        FromTheMiddle x = new FromTheMiddle();
        x.sheet(0, 16, 5);
        x.sheet(1, 16, 3);
        x.sheet(2, 8, 3);
        for (int i = 0; i < 5; i++) x.put(0, i, 10 + i);
        c.due("as they all were, on", x.move(0, 0, 0, 1, 4), 4);
        from(x, 0, 10, 10, 11, 12, 13);
        c.due("as they all were, back", x.move(0, 2, 0, 0, 3), 3);
        from(x, 0, 11, 12, 13, 12, 13);
        c.due("to another", x.move(0, 1, 1, 0, 2), 2);
        from(x, 1, 12, 13, 0);
        c.due("none", x.move(0, 5, 1, 3, 0), 0);
        for (int[] w : new int[][] {{0, 0, 1, 0, 4}, {0, 3, 1, 0, 3}, {0, 0, 1, 2, 2}, {0, -1, 1, 0, 1}, {0, 0, 1, -1, 1},
            {0, 0, 1, 0, -1}, {0, 6, 1, 0, 0}, {0, 0, 1, 4, 0}, {0, Integer.MAX_VALUE, 1, 0, 1}, {0, 1, 1, 0, Integer.MAX_VALUE},
            {0, 0, 1, Integer.MAX_VALUE, 2}, {4, 0, 3, 0, 0}, {3, 0, 4, 0, 0}, {-1, 0, 0, 0, 0}}) {
            c.due("a wrong move", x.move(w[0], w[1], w[2], w[3], w[4]), Checks.BEYOND);
        }
        from(x, 1, 12, 13, 0);
        c.due("from what is missing", x.move(3, 0, 0, 0, 1), Checks.NONE);
        c.due("to what is missing, ahead of KIND", x.move(0, -9, 3, 0, 1), Checks.NONE);
        c.due("unlike bits, ahead of BEYOND", x.move(0, -9, 2, 0, 1), Checks.KIND);
        c.due("unlike bits, though none", x.move(2, 0, 0, 0, 0), Checks.KIND);
    }

    private static void places() {
        FromTheMiddle x = new FromTheMiddle();
        c.due("places(4)", x.places(4), Checks.BEYOND);
        c.due("places(-1)", x.places(-1), Checks.BEYOND);
        c.due("places(0): missing", x.places(0), Checks.NONE);
        x.sheet(0, 16, 4);
        x.put(0, 0, 0);
        x.put(0, 1, 4000);
        x.put(0, 2, 4001);
        x.put(0, 3, 7);
        c.due("no THINGS", x.places(0), 0);
        x.thing(0, 9, 9);
        c.due("one THING", x.places(0), 1);
        c.due("FROM", x.thingIs(0, 2), 0);
        for (int i = 1; i < 5; i++) x.thing(0, 9, 9);
        c.due("up to 4001", x.places(0), 2);
        c.due("FROM", x.thingIs(1, 2), 4000);
        c.due("what is behind stays", x.thingIs(2, 2), 9);
        c.due("what is behind stays", x.thingIs(3, 2), 9);
        c.due("no ERROR", x.told(1) + x.told(2), 3);
    }

    private static void judge() {
        FromTheMiddle x = new FromTheMiddle();
        x.wall(0, 205);
        x.wall(1, 100);
        c.due("judge(4)", x.judge(4), Checks.BEYOND);
        c.due("judge(-1)", x.judge(-1), Checks.BEYOND);
        c.due("judge(1): missing", x.judge(1), Checks.NONE);
        x.sheet(1, 8, 4);
        c.due("0 isn't right", x.judge(1), 0);
        x.put(1, 0, 100);
        x.put(1, 2, 1);
        c.due("from the first on", x.judge(1), 1);
        x.put(1, 1, 100);
        c.due("all three, and one beyond", x.judge(1), 3);
        x.wall(4, 2);
        x.wall(3, -9);
        c.due("row 0 alone", x.judge(1), 3);
    }

    public static void main(String[] args) {
        sheet();
        put();
        move();
        places();
        judge();
        c.end();
    }
}
