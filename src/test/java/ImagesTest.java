/** Promises 33 to 38: the IMAGE, numbers that wait, counts, what is told. */
public final class ImagesTest {
    private static final Checks c = new Checks();

    private static void image() {
        FromTheMiddle x = new FromTheMiddle();
        c.due("restore() without an IMAGE", x.restore(), Checks.NONE);
        x.wall(0, 777);
        x.wall(1, 77);
        x.wall(2, 7);
        x.wall(3, -7);
        x.wall(4, 7);
        x.wall(5, 1);
        x.begin(17);
        x.thing(11, 111, 11);
        x.thing(22, 222, 22);
        Checks.text(x, 0, "c+1");
        Checks.text(x, 1, "h+2");
        Checks.feed(x, "t*w");
        x.tell(111);
        x.tell(5);
        x.seed(99);
        x.sheet(0, 8, 1);
        x.voice(0, 0, 1);
        c.due("image()", x.image(), 1);
        x.wall(0, 1000);
        x.wall(1, 100);
        x.wall(2, 1);
        x.wall(3, 1);
        x.wall(4, 1);
        x.wall(5, 0);
        x.thing(0, 0, 1);
        x.become(0, 69);
        x.hang(1, 0);
        x.untell(0);
        x.text(1);
        x.check();
        x.tell(8);
        x.seed(1);
        x.put(0, 0, 77);
        x.voice(0, 1, 1);
        c.due("restore()", x.restore(), 17);
        int[] wall = {777, 77, 7, -7, 7, 1, 17};
        for (int what = 0; what < wall.length; what++) c.due("wallIs(" + what + ")", x.wallIs(what), wall[what]);
        c.due("THINGS", x.count(0), 2);
        int[] first = {1, 1, 111, 11};
        int[] second = {2, 2, 222, 22};
        for (int what = 0; what < 4; what++) {
            c.due("thingIs(0, " + what + ")", x.thingIs(0, what), first[what]);
            c.due("thingIs(1, " + what + ")", x.thingIs(1, what), second[what]);
        }
        c.due("BROKEN", x.law(0, 3, 0, 0), 4);
        c.due("HARM", x.law(1, 3, 0, 0), 5);
        c.due("THE TAPE", x.count(2), 3);
        c.due("what waits", x.count(3), 2);
        c.due("z", x.count(5), 99);
        c.due("THE TRACE is not kept", x.body(0), 71);
        c.due("SHEETS are not kept", x.places(0), 1);
        c.due("what told() tells is not kept", x.told(2), 1);
        c.due("THE TAPE is t*w", x.text(0), 1);
        c.due("t*w", x.law(0, 1, 2, 3), 6);
        x.begin(1);
        c.due("the IMAGE stays", x.restore(), 17);
        c.due("as it was", x.law(0, 3, 0, 0), 4);
        c.due("what waits: 111 is FROM, 5 isn't", x.check(), 2);
        x.begin(2);
        c.due("image() again, how often isn't kept", x.image(), 2);
        x.begin(3);
        c.due("in place of the one ahead", x.restore(), 2);
        c.due("nothing waits in it", x.count(3), 0);
    }

    private static void waiting() {
        FromTheMiddle x = new FromTheMiddle();
        c.due("nothing waits", x.check(), 0);
        for (int i = 1; i <= 24; i++) c.due("tell", x.tell(i), i);
        c.due("a 25th", x.tell(0), Checks.FULL);
        c.due("24 wait", x.count(3), 24);
        c.due("no THING: the first isn't so", x.check(), 1);
        c.due("none wait then", x.count(3), 0);
        x.thing(0, 50, 1);
        x.thing(0, 60, 1);
        x.tell(50);
        c.due("FROM of the first", x.check(), 0);
        x.tell(50);
        x.tell(60);
        c.due("of both", x.check(), 0);
        x.tell(50);
        x.tell(60);
        x.tell(0);
        c.due("no third", x.check(), 3);
        x.tell(50);
        x.tell(61);
        x.tell(-1);
        c.due("the second isn't so", x.check(), 2);
        c.due("FROM stays", x.thingIs(1, 2), 60);
        c.due("FULL once", x.told(4), 1);
    }

    private static void counts() {
        FromTheMiddle x = new FromTheMiddle();
        x.begin(3);
        x.thing(0, 1, 1);
        x.thing(0, 1, 1);
        x.feed(0, 4);
        x.tell(1);
        x.voice(0, 2, 1);
        x.seed(-7);
        int[] want = {2, 3, 4, 1, 3, -7};
        for (int what = 0; what < want.length; what++) c.due("count(" + what + ")", x.count(what), want[what]);
        c.due("count(6)", x.count(6), Checks.BEYOND);
        c.due("count(-1)", x.count(-1), Checks.BEYOND);
    }

    private static void told() {
        FromTheMiddle x = new FromTheMiddle();
        c.due("told(0)", x.told(0), Checks.BEYOND);
        c.due("told(7)", x.told(7), Checks.BEYOND);
        c.due("counted, too", x.told(1), 2);
        x.body(0);
        x.sheet(0, 8, -1);
        x.sheet(0, 8, -1);
        x.thing(0, 0, 1);
        for (int i = 0; i < 27; i++) x.tell(i);
        for (int i = 0; i < 4; i++) x.as(0, 1);
        for (int i = 0; i < 5; i++) x.voice(0, 3, 1);
        int[] want = {2, 1, 2, 3, 4, 5};
        for (int k = 1; k <= 6; k++) c.due("told(" + k + ")", x.told(k), want[k - 1]);
        c.due("a FAULT is no ERROR", Checks.text(x, 0, "+"), -10);
        c.due("told(1)", x.told(1), 2);
    }

    public static void main(String[] args) {
        image();
        waiting();
        counts();
        told();
        c.end();
    }
}
