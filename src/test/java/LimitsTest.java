/** What the least and the greatest that is taken do, of the wall and of THINGS (Promises 2 to 9); RefusedTest has what isn't taken. */
public final class LimitsTest {
    private static final Checks c = new Checks();
    private static final int MIN = Checks.MIN;
    private static final int MAX = Checks.MAX;

    /** A number of the wall from its least to its greatest and back, and refused in between. */
    private static void wallGoes(String sentence, int what, int first, int least, int most) {
        c.says(sentence);
        FromTheMiddle x = new FromTheMiddle();
        c.due("wallIs(" + what + ") at first", x.wallIs(what), first);
        c.due("the least", x.wall(what, least), first);
        for (int v : new int[] {least - 1, most + 1, MIN, MAX}) c.due("wall(" + what + ", " + v + ")", x.wall(what, v), Checks.BEYOND);
        c.due("wallIs(" + what + ")", x.wallIs(what), least);
        c.due("the greatest", x.wall(what, most), least);
        for (int v : new int[] {least - 1, most + 1, MIN, MAX}) c.due("wall(" + what + ", " + v + ")", x.wall(what, v), Checks.BEYOND);
        c.due("wallIs(" + what + ")", x.wallIs(what), most);
        c.due("one above the least", x.wall(what, least + 1), most);
        c.due("the least", x.wall(what, least), least + 1);
        c.due("the same again", x.wall(what, least), least);
        c.due("BEYOND", x.told(1), 8);
        for (int other = 0; other < 6; other++) {
            int[] firsts = {2000, 150, 2, 0, 1, 0};
            if (other != what) c.due("the other ones stay: " + other, x.wallIs(other), firsts[other]);
        }
    }

    private static void wall() {
        wallGoes("LENGTH (100 .. 4000; 2000 at first)", 0, 2000, 100, 4000);
        wallGoes("TILE (50 .. 200; 150 at first)", 1, 150, 50, 200);
        wallGoes("JOINT (0 .. 9; 2 at first)", 2, 2, 0, 9);
        wallGoes("SKEW (-9 .. 9; 0 at first)", 3, 0, -9, 9);
        wallGoes("ROWS (1 .. 8; 1 at first)", 4, 1, 1, 8);
        wallGoes("BOND (0, 1; 0 at first)", 5, 0, 0, 1);
    }

    private static void start() {
        c.says("START (1 .. TILE; 150 at first)");
        FromTheMiddle x = new FromTheMiddle();
        c.due("wallIs(6)", x.wallIs(6), 150);
        int was = 150;
        for (int tile : new int[] {150, 50, 200, 51, 199}) {
            x.wall(1, tile);
            c.due("begin(1)", x.begin(1), tile);
            c.due("begin(0)", x.begin(0), Checks.BEYOND);
            c.due("START stays", x.wallIs(6), 1);
            c.due("begin(TILE)", x.begin(tile), 1);
            c.due("begin(TILE and 1)", x.begin(tile + 1), Checks.BEYOND);
            c.due("START stays", x.count(1), tile);
            c.due("begin(TILE less 1)", x.begin(tile - 1), tile);
            was = tile - 1;
        }
        c.due("what it was", x.begin(5), was);
        c.says("TILE (1; START becomes that, too)");
        c.due("the same TILE again", x.wall(1, 199), 199);
        c.due("START", x.wallIs(6), 199);
        x.begin(5);
        c.due("refused", x.wall(1, 201), Checks.BEYOND);
        c.due("START stays", x.wallIs(6), 5);
        c.due("refused", x.wall(1, 49), Checks.BEYOND);
        c.due("START stays", x.wallIs(6), 5);
        c.due("a TILE as wide as the least", x.wall(1, 50), 199);
        c.due("START", x.wallIs(6), 50);
        for (int what : new int[] {0, 2, 3, 4, 5}) {
            x.begin(7);
            x.wall(what, what == 0 ? 100 : 1);
            c.due("none of the others does that: " + what, x.wallIs(6), 7);
        }
    }

    private static void isThing(FromTheMiddle x, int thing, int kind, int m, int from, int width) {
        int[] want = {kind, m, from, width};
        for (int what = 0; what < 4; what++) c.due("thingIs(" + thing + ", " + what + ")", x.thingIs(thing, what), want[what]);
        c.due("thingIs(" + thing + ", 4)", x.thingIs(thing, 4), Checks.BEYOND);
        c.due("thingIs(" + thing + ", -1)", x.thingIs(thing, -1), Checks.BEYOND);
    }

    private static void things() {
        c.says("each with a number m (0 .. 9), a FROM (0 .. 4000), a WIDTH (1 .. 999)");
        FromTheMiddle x = new FromTheMiddle();
        c.due("the least of all", x.thing(0, 0, 1), 0);
        c.due("the greatest m of the first KIND", x.thing(9, 1, 2), 1);
        c.due("the least m of the second", x.thing(10, 3999, 998), 2);
        c.due("the greatest m of the last KIND but one", x.thing(59, 2, 3), 3);
        c.due("the least m of the last", x.thing(60, 3, 4), 4);
        c.due("the greatest of all", x.thing(69, 4000, 999), 5);
        isThing(x, 0, 0, 0, 0, 1);
        isThing(x, 1, 0, 9, 1, 2);
        isThing(x, 2, 1, 0, 3999, 998);
        isThing(x, 3, 5, 9, 2, 3);
        isThing(x, 4, 6, 0, 3, 4);
        isThing(x, 5, 6, 9, 4000, 999);
        c.due("FROM does not end with the wall", x.wallIs(0), 2000);
        c.says("THINGS 0, 1, .. (at most 6)");
        c.due("a seventh", x.thing(0, 0, 1), Checks.FULL);
        c.due("six stay", x.count(0), 6);
        c.due("no THING 6", x.thingIs(6, 0), Checks.BEYOND);
        c.due("no THING -1", x.thingIs(-1, 0), Checks.BEYOND);
        c.due("THING 5 stays", x.thingIs(5, 3), 999);
    }

    private static void none() {
        c.says("no THINGS");
        FromTheMiddle x = new FromTheMiddle();
        c.due("thingIs(0, 0)", x.thingIs(0, 0), Checks.BEYOND);
        c.due("become(0, 0)", x.become(0, 0), Checks.BEYOND);
        c.due("as(0, 0)", x.as(0, 0), Checks.BEYOND);
        c.due("hang(0, 0)", x.hang(0, 0), Checks.BEYOND);
        c.due("seen(0, 0, 0)", x.seen(0, 0, 0), Checks.BEYOND);
        c.due("voice(0, 0, 0)", x.voice(0, 0, 0), Checks.BEYOND);
        c.due("buy(5)", x.buy(5), 0);
        c.due("count(0)", x.count(0), 0);
        c.due("the first", x.thing(0, 0, 1), 0);
        c.due("thingIs(0, 3)", x.thingIs(0, 3), 1);
        c.due("thingIs(1, 3)", x.thingIs(1, 3), Checks.BEYOND);
    }

    private static void become() {
        c.says("A THING becomes one of a KIND, with m (km): the KIND that it was");
        FromTheMiddle x = new FromTheMiddle();
        x.thing(35, 7, 8);
        int was = 3;
        for (int km : new int[] {0, 69, 9, 10, 59, 60, 60, 0}) {
            c.due("become(0, " + km + ")", x.become(0, km), was);
            was = km / 10;
            c.due("become(0, -1)", x.become(0, -1), Checks.BEYOND);
            c.due("become(0, 70)", x.become(0, 70), Checks.BEYOND);
            isThing(x, 0, was, km % 10, 7, 8);
        }
    }

    private static void as() {
        c.says("KIND: it isn't of that KIND, nor of one under it");
        int[][] above = {{0}, {0, 1}, {0, 2}, {0, 3}, {0, 1, 4}, {0, 2, 5}, {0, 3, 6}};
        for (int m : new int[] {0, 9}) {
            for (int own = 0; own < 7; own++) {
                FromTheMiddle x = new FromTheMiddle();
                x.thing(10 * own + m, 0, 1);
                for (int kind = 0; kind < 7; kind++) {
                    boolean is = false;
                    for (int k : above[own]) is |= k == kind;
                    c.due("KIND " + own + " as " + kind, x.as(0, kind), is ? m : Checks.KIND);
                }
                c.due("told(5)", x.told(5), 7 - above[own].length);
            }
        }
    }

    private static void hang() {
        c.says("FROM of a THING becomes so: what it was");
        FromTheMiddle x = new FromTheMiddle();
        for (int i = 0; i < 6; i++) x.thing(0, 10 * i, 999);
        c.due("the least", x.hang(0, 0), 0);
        c.due("the greatest", x.hang(5, 4000), 50);
        c.due("what it was", x.hang(5, 0), 4000);
        c.due("one below the greatest", x.hang(5, 3999), 0);
        for (int from : new int[] {-1, 4001, MIN, MAX}) c.due("hang(5, " + from + ")", x.hang(5, from), Checks.BEYOND);
        c.due("it stays", x.thingIs(5, 2), 3999);
        c.due("the one ahead stays", x.thingIs(4, 2), 40);
        c.due("a seventh", x.hang(6, 0), Checks.BEYOND);
    }

    public static void main(String[] args) {
        wall();
        start();
        things();
        none();
        become();
        as();
        hang();
        c.end();
    }
}
