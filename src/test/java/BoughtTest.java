/** One HALF more or less, one tile more than a box holds, draws at their ends (Promises 17 to 19). */
public final class BoughtTest {
    private static final Checks c = new Checks();
    private static final int MIN = Checks.MIN;
    private static final int MAX = Checks.MAX;

    private static void halves() {
        c.says("one needs a tile for each piece that is no HALF, one for each two HALVES (the last one alone, too), and BROKEN more");
        // rows of one piece, which is a HALF and a CUT; BROKEN is a third of the CUTS
        int[] want = {1, 1, 2 + 1, 2 + 1, 3 + 1, 3 + 2, 4 + 2, 4 + 2};
        FromTheMiddle x = Checks.wall(100, 200, 9);
        x.begin(98);
        for (int rows = 1; rows <= 8; rows++) {
            x.wall(4, rows);
            c.due("HALVES of " + rows + " ROWS", x.buy(4), rows);
            c.due("tiles of " + rows + " HALVES", x.buy(0), want[rows - 1]);
        }
        x.begin(99);
        c.due("no HALVES", x.buy(4), 0);
        c.due("8 pieces, and a third of 8 CUTS", x.buy(0), 8 + 2);
        FromTheMiddle y = Checks.wall(196, 100, 0);
        y.begin(48);
        c.due("a TILE and two HALVES", y.buy(0), 2);
        y.wall(0, 197);
        c.due("a TILE, a HALF and 49", y.buy(0), 3);
        y.wall(0, 148);
        c.due("a HALF and a TILE", y.buy(0), 2);
    }

    private static void broken() {
        c.says("without a TEXT c by 3 (cut)");
        FromTheMiddle x = Checks.wall(150, 100, 0);
        x.begin(75);
        // two CUTS in each row, none a HALF
        int[] want = {2, 4 + 1, 6 + 2, 8 + 2, 10 + 3, 12 + 4, 14 + 4, 16 + 5};
        for (int rows = 1; rows <= 8; rows++) {
            x.wall(4, rows);
            c.due("CUTS of " + rows + " ROWS", x.buy(2), 2 * rows);
            c.due("tiles of " + rows + " ROWS", x.buy(0), want[rows - 1]);
        }
        FromTheMiddle none = Checks.wall(100, 100, 0);
        c.due("one TILE, no CUTS, none BROKEN", none.buy(0), 1);
        none.wall(1, 101);
        c.due("one CUT, none BROKEN", none.buy(0), 1);
        c.says("NAMES c CUTS of all ROWS, t tiles that one needs else, w TILE; held within 0 .. 99");
        Checks.text(x, 0, "c");
        c.due("c", x.buy(0), 16 + 16);
        Checks.text(x, 0, "t");
        c.due("t, without BROKEN itself", x.buy(0), 16 + 16);
        x.begin(100);
        // 100 and 50 in each row
        Checks.text(x, 0, "t*100+c");
        c.due("99 at most", x.buy(0), 16 + 99);
        Checks.text(x, 0, "t*5+c*2+3");
        c.due("just 99", x.buy(0), 16 + 99);
        Checks.text(x, 0, "t*5+c*2+2");
        c.due("98", x.buy(0), 16 + 98);
        Checks.text(x, 0, "0-t");
        c.due("0 at least", x.buy(0), 16);
        FromTheMiddle w = Checks.wall(100, 99, 2);
        Checks.text(w, 0, "w");
        c.due("w of 99", w.buy(0), 1 + 99);
        w.wall(1, 98);
        c.due("w of 98", w.buy(0), 1 + 98);
        w.wall(1, 100);
        c.due("w of 100", w.buy(0), 1 + 99);
    }

    private static void boxes() {
        c.says("BOXES of 40 (the last one whole)");
        FromTheMiddle x = Checks.wall(100, 100, 0);
        int[][] more = {{0, 1}, {1, 1}, {38, 1}, {39, 1}, {40, 2}, {78, 2}, {79, 2}, {80, 3}, {99, 3}};
        for (int[] m : more) {
            Checks.text(x, 0, "" + m[0]);
            c.due("tiles", x.buy(0), 1 + m[0]);
            c.due("BOXES of " + (1 + m[0]), x.buy(1), m[1]);
        }
        FromTheMiddle y = Checks.wall(4000, 50, 0);
        y.wall(4, 8);
        c.due("640 tiles", y.buy(0), 640);
        c.due("16 BOXES", y.buy(1), 16);
        Checks.text(y, 0, "1");
        c.due("641 tiles", y.buy(1), 17);
        Checks.text(y, 0, "99");
        c.due("739 tiles", y.buy(0), 739);
        c.due("739 tiles", y.buy(1), 19);
        c.says("of all ROWS 2 CUTS, 3 the NARROWEST piece, 4 HALVES");
        y.wall(3, 9);
        // rows 1 to 5 end with 9 to 45, rows 6 and 7 with 50 and 4, 50 and 13
        c.due("CUTS", y.buy(2), 7);
        c.due("HALVES: 9, 18, 4, 13", y.buy(4), 4);
        c.due("the NARROWEST", y.buy(3), 4);
        Checks.text(y, 0, "0");
        // 80, five times 81, two times 82 pieces
        c.due("tiles of ROWS that aren't alike", y.buy(0), 649 - 4 + 2);
        y.wall(3, -1);
        // 50 less 1 to 7
        c.due("the NARROWEST", y.buy(3), 43);
        y.wall(3, 0);
        c.due("no CUTS", y.buy(2), 0);
        c.due("the NARROWEST is whole", y.buy(3), 50);
    }

    private static int next(int z) {
        return z * 1103515245 + 12345;
    }

    /** The first seed from 0 on by which the draw-th draw leaves a rest. */
    private static int seedOf(int draw, int by, int rest) {
        for (int seed = 0; seed < 1000000; seed++) {
            int z = seed;
            for (int i = 0; i < draw; i++) z = next(z);
            if ((z >>> 8) % by == rest) return seed;
        }
        throw new IllegalStateException("no seed");
    }

    private static FromTheMiddle seeded(int seed, int things) {
        FromTheMiddle x = new FromTheMiddle();
        for (int i = 0; i < things; i++) x.thing(0, 3001 + i, 1);
        x.seed(seed);
        return x;
    }

    private static void starts() {
        c.says("START becomes 1 and a draw's rest by TILE");
        for (int tile : new int[] {50, 150, 200}) {
            for (int start : new int[] {1, 2, tile - 1, tile}) {
                FromTheMiddle x = seeded(seedOf(1, tile, start - 1), 0);
                x.wall(1, tile);
                c.due("loose(1) by TILE " + tile, x.loose(1), start);
                c.due("START", x.wallIs(6), start);
            }
        }
        c.says("DRAWS: each makes it z * 1103515245 + 12345 (an int), and gives z >>> 8");
        int[][] known = {{0, 12345, 49}, {-1, -1103502900, 8}, {MAX, 1043980748, 150}, {MIN, -2147471303, 57}, {1, 1103527590, 105}};
        for (int[] k : known) {
            FromTheMiddle x = seeded(k[0], 0);
            c.due("loose(1) from z " + k[0], x.loose(1), k[2]);
            c.due("z", x.count(5), k[1]);
        }
        c.due("z is told (1 at first)", new FromTheMiddle().count(5), 1);
    }

    private static void froms() {
        c.says("if there are THINGS, two more draws: FROM of the one that is the first one's rest by how many there are");
        FromTheMiddle none = seeded(5, 0);
        none.loose(1);
        c.due("one draw without THINGS", none.count(5), next(5));
        for (int things = 1; things <= 6; things++) {
            for (int drawn = 0; drawn < things; drawn++) {
                int seed = seedOf(2, things, drawn);
                FromTheMiddle x = seeded(seed, things);
                x.loose(1);
                int third = next(next(next(seed)));
                c.due("three draws", x.count(5), third);
                for (int i = 0; i < things; i++) {
                    c.due("FROM of " + i + " of " + things, x.thingIs(i, 2), i == drawn ? (third >>> 8) % 2001 : 3001 + i);
                }
            }
        }
        c.says("becomes the second one's rest by LENGTH and 1");
        for (int length : new int[] {100, 2000, 4000}) {
            for (int from : new int[] {0, 1, length - 1, length}) {
                FromTheMiddle x = seeded(seedOf(3, length + 1, from), 1);
                x.wall(0, length);
                x.loose(1);
                c.due("FROM by LENGTH " + length, x.thingIs(0, 2), from);
            }
        }
    }

    private static void times() {
        c.says("So it is n times (1 .. 40) BY DRAWS: START");
        for (int things : new int[] {0, 6}) {
            for (int n : new int[] {1, 2, 39, 40}) {
                FromTheMiddle once = seeded(9, things);
                FromTheMiddle often = seeded(9, things);
                int z = 9;
                for (int i = 0; i < n; i++) once.loose(1);
                for (int i = 0; i < n * (things > 0 ? 3 : 1); i++) z = next(z);
                c.due("loose(" + n + ")", often.loose(n), once.wallIs(6));
                c.due("z", often.count(5), z);
                c.due("z", once.count(5), z);
                for (int i = 0; i < things; i++) c.due("FROM", often.thingIs(i, 2), once.thingIs(i, 2));
                for (int no : new int[] {0, -1, 41, MIN, MAX}) c.due("loose(" + no + ")", often.loose(no), Checks.BEYOND);
                c.due("z stays", often.count(5), z);
            }
        }
    }

    private static void seeds() {
        c.says("z becomes v: what it was (any number)");
        FromTheMiddle x = new FromTheMiddle();
        int was = 1;
        for (int v : new int[] {MIN, MAX, 0, -1, Checks.BEYOND, Checks.PARTED, 1}) {
            c.due("seed(" + v + ")", x.seed(v), was);
            c.due("z", x.count(5), v);
            was = v;
        }
        for (int k = 1; k <= 6; k++) c.due("that was no ERROR: told(" + k + ")", x.told(k), 0);
    }

    public static void main(String[] args) {
        halves();
        broken();
        boxes();
        starts();
        froms();
        times();
        seeds();
        c.end();
    }
}
