/** Promises 17 to 19: what is bought, draws. */
public final class BuyTest {
    private static final Checks c = new Checks();

    private static void buy() {
        FromTheMiddle x = new FromTheMiddle();
        // 0..23, 25..75, 77..100: 2 * 23 and 3 is 49, 2 * 24 and 3 is 51
        x.wall(0, 100);
        x.wall(1, 50);
        x.begin(23);
        c.due("HALVES", x.buy(4), 2);
        c.due("CUTS", x.buy(2), 2);
        c.due("NARROWEST", x.buy(3), 23);
        c.due("two HALVES of one tile", x.buy(0), 2);
        x.begin(24);
        c.due("24 is no HALF, 22 is one", x.buy(4), 1);
        c.due("the last HALF alone, too", x.buy(0), 3);
        FromTheMiddle y = new FromTheMiddle();
        y.wall(0, 100);
        y.wall(1, 51);
        y.begin(24);
        c.due("twice 24, and 3, is 51", y.buy(4), 2);
        y.begin(25);
        c.due("twice 25, and 3, is more", y.buy(4), 1);
        x.wall(4, 3);
        c.due("HALVES of all ROWS", x.buy(4), 3);
        c.due("CUTS of all ROWS", x.buy(2), 6);
        c.due("6 pieces, 3 HALVES, a third of 6 CUTS", x.buy(0), 10);
        c.due("BOXES", x.buy(1), 1);
        c.due("NARROWEST", x.buy(3), 22);
        x.wall(3, 5);
        // row 1: 0..24, 26..76, 78..105; row 2: .. 78..110
        c.due("HALVES", x.buy(4), 1);
        c.due("NARROWEST", x.buy(3), 22);
        c.due("buy(-1)", x.buy(-1), Checks.BEYOND);
        c.due("buy(6)", x.buy(6), Checks.BEYOND);
    }

    private static void broken() {
        FromTheMiddle x = new FromTheMiddle();
        x.wall(4, 3);
        // 13 whole TILES and 24 in each row: t is 39 and 2
        Checks.text(x, 0, "t");
        c.due("t without BROKEN", x.buy(0), 82);
        Checks.text(x, 0, "w");
        c.due("w, held within 99", x.buy(0), 140);
        Checks.text(x, 0, "c*7");
        c.due("c", x.buy(0), 62);
        Checks.text(x, 0, "0-1");
        c.due("nothing below 0", x.buy(0), 41);
        c.due("41 are two BOXES", x.buy(1), 2);
        Checks.text(x, 0, "39");
        c.due("80 are two BOXES", x.buy(1), 2);
        Checks.text(x, 0, "40");
        c.due("81 are three", x.buy(1), 3);
    }

    private static void harm() {
        FromTheMiddle x = new FromTheMiddle();
        c.due("no THINGS", x.buy(5), 0);
        x.wall(4, 2);
        x.thing(0, 10, 20);
        x.thing(20, 140, 20);
        // both rows alike: 1 of the THING, and TOUCHES 2 with a JOINT of the OUTLET
        c.due("HARM of all THINGS on all ROWS", x.buy(5), 6);
        Checks.text(x, 1, "h*(n+1)-k*3");
        c.due("by a TEXT", x.buy(5), 2 * (1 + (2 * 2 - 6)));
        Checks.text(x, 1, "h*99");
        c.due("each held", x.buy(5), 2 * (99 + 99));
    }

    private static void draws() {
        FromTheMiddle x = new FromTheMiddle();
        c.due("loose(0)", x.loose(0), Checks.BEYOND);
        c.due("loose(41)", x.loose(41), Checks.BEYOND);
        c.due("z stays", x.count(5), 1);
        int z = 1103515245 + 12345;
        c.due("one draw without THINGS", x.loose(1), 1 + (z >>> 8) % 150);
        c.due("z", x.count(5), z);
        c.due("seed(-5)", x.seed(-5), z);
        c.due("seed(1)", x.seed(1), -5);
        x.thing(0, 1, 1);
        x.thing(0, 2, 2);
        x.thing(0, 3, 3);
        int z2 = z * 1103515245 + 12345;
        int z3 = z2 * 1103515245 + 12345;
        c.due("three with THINGS", x.loose(1), 1 + (z >>> 8) % 150);
        c.due("z", x.count(5), z3);
        for (int i = 0; i < 3; i++) {
            boolean drawn = i == (z2 >>> 8) % 3;
            c.due("FROM of " + i, x.thingIs(i, 2), drawn ? (z3 >>> 8) % 2001 : i + 1);
            c.due("WIDTH of " + i, x.thingIs(i, 3), i + 1);
        }
        FromTheMiddle one = new FromTheMiddle();
        one.thing(0, 1, 1);
        one.loose(1);
        c.due("three draws for one THING, too", one.count(5), z3);
        c.due("its FROM", one.thingIs(0, 2), (z3 >>> 8) % 2001);
        FromTheMiddle once = new FromTheMiddle();
        FromTheMiddle forty = new FromTheMiddle();
        once.thing(0, 1, 1);
        forty.thing(0, 1, 1);
        int start = 0;
        for (int i = 0; i < 40; i++) start = once.loose(1);
        c.due("40 times", forty.loose(40), start);
        c.due("z", forty.count(5), once.count(5));
        c.due("FROM", forty.thingIs(0, 2), once.thingIs(0, 2));
    }

    public static void main(String[] args) {
        buy();
        broken();
        harm();
        draws();
        c.end();
    }
}
