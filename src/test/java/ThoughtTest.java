/** Promises 20 to 25: what would be, while nothing changes. */
public final class ThoughtTest {
    private static final Checks c = new Checks();

    private static FromTheMiddle wall(int length, int tile, int joint) {
        FromTheMiddle x = new FromTheMiddle();
        x.wall(0, length);
        x.wall(1, tile);
        x.wall(2, joint);
        return x;
    }

    private static void best() {
        FromTheMiddle x = wall(101, 80, 0);
        x.begin(3);
        c.due("50 and 51, or 51 and 50: the least START", x.best(0), 50);
        c.due("NARROWEST", x.best(1), 50);
        c.due("CUTS", x.best(2), 2);
        c.due("START stays", x.wallIs(6), 3);
        x = wall(107, 52, 2);
        x.wall(3, -2);
        x.wall(4, 2);
        // 51, 52 (row 1: 51, 52) and 52, 52 (row 1: 52, 51) are as wide at the narrowest
        c.due("the fewest CUTS ahead of the least START", x.best(0), 52);
        c.due("NARROWEST", x.best(1), 51);
        c.due("CUTS", x.best(2), 1);
        c.due("best(3)", x.best(3), Checks.BEYOND);
        c.due("best(-1)", x.best(-1), Checks.BEYOND);
    }

    private static void calm() {
        FromTheMiddle x = wall(300, 100, 2);
        x.thing(0, 40, 5);
        x.begin(9);
        // a JOINT from START to START and 2 meets 40 to 45 from 38 on
        c.due("the least START by which a JOINT is there", x.calm(0), 38);
        c.due("HARM", x.calm(1), 0);
        c.due("START stays", x.wallIs(6), 9);
        x.thing(30, 100, 60);
        // of the MIRROR at 100 to 160 no CUT can be hidden; the last one, from 2 * 102 and START - 100 on, isn't there
        c.due("START", x.calm(0), 38);
        x.hang(1, 0);
        // 0 to 60 hides the first CUT and may have a JOINT of the THING in it
        c.due("START", x.calm(0), 38);
        c.due("HARM", x.calm(1), -1);
        Checks.text(x, 1, "0-h");
        c.due("by a TEXT", x.calm(1), -1);
        c.due("the least of many", x.calm(0), 61);
        c.due("calm(2)", x.calm(2), Checks.BEYOND);
        c.due("calm(-1)", x.calm(-1), Checks.BEYOND);
        FromTheMiddle y = wall(100, 60, 2);
        y.thing(0, 2, 1);
        c.due("START 1 among several", y.calm(0), 1);
        y.hang(0, 61);
        c.due("up to START 60 from 59 on", y.calm(0), 59);
        y.hang(0, 63);
        c.due("START 1, by the next JOINT", y.calm(0), 1);
        Checks.text(y, 1, "0-h");
        y.hang(0, 64);
        c.due("by a TEXT the first without a JOINT there", y.calm(0), 4);
        FromTheMiddle last = wall(100, 50, 0);
        last.thing(30, 0, 49);
        Checks.text(last, 1, "0-h");
        c.due("only START 50 leaves no CUT to hide", last.calm(0), 50);
        c.due("HARM", last.calm(1), 0);
        FromTheMiddle none = new FromTheMiddle();
        c.due("no THINGS", none.calm(0), 1);
        c.due("no HARM", none.calm(1), 0);
    }

    private static void cheat() {
        FromTheMiddle x = wall(436, 100, 2);
        c.due("four TILES, three JOINTS of 12", x.cheat(0), Checks.NONE);
        x.wall(0, 427);
        c.due("of 9", x.cheat(0), 9);
        c.due("TILES", x.cheat(1), 4);
        c.due("JOINT stays", x.wallIs(2), 2);
        x.wall(0, 400);
        c.due("of 0", x.cheat(0), 0);
        c.due("TILES", x.cheat(1), 4);
        x.wall(0, 100);
        c.due("one TILE", x.cheat(0), 0);
        c.due("one TILE", x.cheat(1), 1);
        x.wall(1, 200);
        c.due("LENGTH below TILE", x.cheat(1), Checks.NONE);
        x.wall(0, 3651);
        x.wall(1, 50);
        c.due("by none", x.cheat(0), Checks.NONE);
        x.wall(0, 3570 - 1);
        c.due("the least of several", x.cheat(0), 1);
        c.due("70 TILES", x.cheat(1), 70);
        c.due("cheat(2): BEYOND", x.cheat(2), Checks.BEYOND);
        c.due("cheat(-1)", x.cheat(-1), Checks.BEYOND);
    }

    private static void middle() {
        FromTheMiddle x = wall(1003, 100, 2);
        // 1001 by 2 is 500, which leaves 92; 903 by 2 is 451, less 2, which leaves 41
        c.due("a JOINT", x.middle(0), 92);
        c.due("a TILE", x.middle(1), 41);
        x.wall(0, 410);
        c.due("204 leaves 0: TILE", x.middle(0), 100);
        c.due("155 less 2 leaves 51", x.middle(1), 51);
        x.wall(0, 408);
        c.due("203 leaves 101, which is above TILE", x.middle(0), 100);
        x.wall(0, 406);
        c.due("202 leaves 100, which is TILE", x.middle(0), 100);
        x.wall(0, 412);
        c.due("205 leaves 1", x.middle(0), 1);
        x.wall(0, 414);
        c.due("206 leaves 2", x.middle(0), 2);
        x.wall(0, 101);
        c.due("0 less 2 is below 1", x.middle(1), 100);
        x.wall(1, 200);
        c.due("what is below 0 is below 1", x.middle(1), 200);
        c.due("49", x.middle(0), 49);
        c.due("START stays", x.wallIs(6), 200);
        c.due("middle(2)", x.middle(2), Checks.BEYOND);
        c.due("middle(-1)", x.middle(-1), Checks.BEYOND);
    }

    private static void odds(FromTheMiddle x, int v, int above, int below) {
        c.due("odds(" + v + ", 0)", x.odds(v, 0), above);
        c.due("odds(" + v + ", 1)", x.odds(v, 1), below);
    }

    private static void odds() {
        FromTheMiddle x = wall(100, 50, 0);
        // the NARROWEST is START or 50 less START, or 50 by START 50
        odds(x, 0, 1, 1);
        odds(x, 1, 1, 1);
        odds(x, 2, 24, 25);
        odds(x, 24, 2, 25);
        odds(x, 25, 1, 25);
        odds(x, 26, 1, 50);
        odds(x, 50, 1, 50);
        odds(x, 51, 0, 1);
        odds(x, 200, 0, 1);
        for (int[] wrong : new int[][] {{-1, 0}, {201, 0}, {5, -1}, {5, 2}}) {
            c.due("wrong odds", x.odds(wrong[0], wrong[1]), Checks.BEYOND);
        }
        x.wall(4, 2);
        x.wall(5, 1);
        // row 1 begins with 25 more, or 25 less
        // of 12 to 38 and 50 only 12, 13, 25, 37, 38, 50 are so in row 1, too
        odds(x, 12, 3, 25);
        odds(x, 13, 1, 25);
    }

    private static void fits() {
        FromTheMiddle x = wall(250, 100, 0);
        x.begin(77);
        c.due("fits(0, 0): missing", x.fits(0, 0), Checks.NONE);
        c.due("fits(4, 0)", x.fits(4, 0), Checks.BEYOND);
        c.due("fits(-1, 0)", x.fits(-1, 0), Checks.BEYOND);
        c.due("fits(0, 2): BEYOND ahead of NONE", x.fits(0, 2), Checks.BEYOND);
        c.due("fits(0, -1)", x.fits(0, -1), Checks.BEYOND);
        x.sheet(0, 16, 0);
        c.due("nothing told fits all", x.fits(0, 0), 100);
        c.due("the least", x.fits(0, 1), 1);
        x.sheet(0, 16, 1);
        c.due("0 fits none", x.fits(0, 0), 0);
        c.due("no least", x.fits(0, 1), Checks.NONE);
        x.put(0, 0, 60);
        c.due("60", x.fits(0, 0), 1);
        c.due("60", x.fits(0, 1), 60);
        x.sheet(0, 16, 4);
        x.put(0, 0, 50);
        x.put(0, 1, 100);
        x.put(0, 2, 100);
        c.due("a fourth that isn't there", x.fits(0, 0), 0);
        x.sheet(1, 16, 3);
        x.move(0, 0, 1, 0, 3);
        c.due("all pieces", x.fits(1, 0), 1);
        c.due("by 50", x.fits(1, 1), 50);
        c.due("judge by START 77", x.judge(1), 0);
        x.begin(50);
        c.due("judge by START 50", x.judge(1), 3);
        x.wall(4, 2);
        x.wall(3, 9);
        c.due("row 0 alone", x.fits(1, 0), 1);
        FromTheMiddle y = wall(100, 200, 0);
        y.sheet(3, 32, 1);
        y.put(3, 0, 100);
        c.due("a first piece that is cut off", y.fits(3, 0), 101);
        c.due("the least", y.fits(3, 1), 100);
    }

    public static void main(String[] args) {
        best();
        calm();
        cheat();
        middle();
        odds();
        fits();
        c.end();
    }
}
