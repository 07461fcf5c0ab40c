import java.util.List;

/** What an IMAGE has and hasn't, 24 that wait and one more, counts, told() to the last of 512 calls (Promises 1, 33 to 38). */
public final class KeptTest {
    private static final Checks c = new Checks();
    private static final int MIN = Checks.MIN;
    private static final int MAX = Checks.MAX;

    private static void newObject() {
        c.says("All as at first; no THINGS, no TEXTS");
        FromTheMiddle x = new FromTheMiddle();
        int[] wall = {2000, 150, 2, 0, 1, 0, 150};
        for (int what = 0; what < 7; what++) c.due("wallIs(" + what + ")", x.wallIs(what), wall[what]);
        int[] counts = {0, 150, 0, 0, 0, 1};
        for (int what = 0; what < 6; what++) c.due("count(" + what + ")", x.count(what), counts[what]);
        for (int k = 1; k <= 6; k++) c.due("told(" + k + ")", x.told(k), 0);
        for (int use = 0; use < 2; use++) c.due("untell(" + use + ")", x.untell(use), 0);
        c.due("restore()", x.restore(), Checks.NONE);
        c.due("body(0)", x.body(0), Checks.NONE);
        for (int s = 0; s < 4; s++) c.due("judge(" + s + ")", x.judge(s), Checks.NONE);
        c.due("check()", x.check(), 0);
        c.due("image()", x.image(), 1);
        c.says("FromTheMiddle(): All as at first");
        FromTheMiddle y = Whole.roomy();
        c.due("objects made ahead and behind are alike", Whole.of(new FromTheMiddle()).equals(Whole.of(fresh(y))) ? 1 : 0, 1);
    }

    /** A new object, made while another one is full. */
    private static FromTheMiddle fresh(FromTheMiddle other) {
        other.image();
        return new FromTheMiddle();
    }

    private static void images() {
        c.says("in place of one ahead: how often that was done");
        FromTheMiddle x = new FromTheMiddle();
        c.due("NONE: there is none", x.restore(), Checks.NONE);
        c.due("told(2)", x.told(2), 1);
        for (int i = 1; i <= 30; i++) {
            x.begin(i);
            c.due("image()", x.image(), i);
            x.begin(100);
            c.due("restore()", x.restore(), i);
            c.due("START", x.wallIs(6), i);
            c.due("the IMAGE stays", x.restore(), i);
        }
        c.due("told(2)", x.told(2), 1);
        c.says("All is as the IMAGE has it, which stays: START");
        FromTheMiddle empty = new FromTheMiddle();
        empty.image();
        empty.restore();
        c.due("an IMAGE of what is new", Whole.of(empty).equals(Whole.of(imaged(new FromTheMiddle()))) ? 1 : 0, 1);
        FromTheMiddle full = Whole.full();
        full.image();
        full.wall(1, 60);
        for (int i = 0; i < 6; i++) full.become(i, 0);
        full.text(1);
        full.untell(0);
        full.check();
        full.seed(3);
        full.tell(1);
        full.wall(4, 1);
        c.due("START", full.restore(), 70);
        c.due("all is as it was", same(full, imaged(Whole.full())), 1);
    }

    private static void fewer() {
        c.says("All is as the IMAGE has it");
        FromTheMiddle x = new FromTheMiddle();
        x.thing(11, 12, 13);
        x.image();
        for (int round = 0; round < 2; round++) {
            for (int i = 1; i < 6; i++) c.due("thing", x.thing(60 + i, 100 * i, 10 * i + round), i);
            for (int i = 1; i < 6; i++) {
                int[] want = {6, i, 100 * i, 10 * i + round};
                for (int what = 0; what < 4; what++) c.due("thingIs(" + i + ", " + what + ")", x.thingIs(i, what), want[what]);
            }
            c.due("a seventh", x.thing(0, 0, 1), Checks.FULL);
            for (int i = 1; i <= 24; i++) c.due("tell", x.tell(100), i);
            for (int i = 1; i <= 60; i++) c.due("feed", x.feed(0x31, 1), i);
            Checks.text(x, 1, "7");
            c.due("restore()", x.restore(), 150);
            c.due("THINGS", x.count(0), 1);
            c.due("no other THING", x.thingIs(1, 0), Checks.BEYOND);
            c.due("bytes of THE TAPE", x.count(2), 0);
            c.due("numbers that wait", x.count(3), 0);
            c.due("no TEXT", x.untell(1), 0);
            c.due("an empty TAPE", x.text(1), -10);
            c.due("nothing waits", x.check(), 0);
        }
    }

    private static FromTheMiddle imaged(FromTheMiddle x) {
        x.image();
        return x;
    }

    private static int same(FromTheMiddle x, FromTheMiddle y) {
        List<Integer> of = Whole.of(x);
        return of.equals(Whole.of(y)) ? 1 : 0;
    }

    private static void notInImages() {
        c.says("All (but SHEETS, THE TRACE, what told() tells, and how often this was done) is kept as an IMAGE");
        FromTheMiddle x = Whole.roomy();
        int images = x.image();
        x.sheet(0, 32, 1);
        x.put(0, 0, 44);
        x.sheet(1, 0, 0);
        x.put(2, 0, 45);
        x.sheet(3, 8, 1);
        x.put(3, 0, 46);
        x.voice(0, 0, 1);
        x.begin(0);
        int beyond = x.told(1);
        c.due("restore()", x.restore(), 21);
        c.due("told(1)", x.told(1), beyond);
        c.due("BODIES", x.count(4), 2);
        c.due("body(0)", x.body(0), 20);
        c.due("a SHEET that is missing", x.judge(1), Checks.NONE);
        c.due("a number of a SHEET", x.places(2), 2);
        c.due("a number of a SHEET", x.thingIs(0, 2), 45);
        c.due("a SHEET that was missing", x.places(3), 1);
        c.due("its number", x.thingIs(0, 2), 46);
        c.due("bits", x.move(0, 0, 2, 0, 1), 1);
        c.due("numbers", x.places(0), 1);
        c.due("its number", x.thingIs(0, 2), 44);
        c.due("how often", x.image(), images + 1);
        FromTheMiddle none = Whole.roomy();
        none.restore();
        // roomy() spoke behind its IMAGE
        c.due("THE TRACE of behind the IMAGE stays", none.count(4), 5);
        c.due("the SHEETS of behind the IMAGE stay", none.judge(1), 0);
    }

    private static void waiting() {
        c.says("One more number waits: how many. FULL: 24 wait");
        FromTheMiddle x = new FromTheMiddle();
        for (int round = 0; round < 2; round++) {
            for (int i = 1; i <= 24; i++) c.due("tell", x.tell(new int[] {MIN, MAX, 0, -1}[i % 4]), i);
            for (int i = 0; i < 3; i++) c.due("tell", x.tell(i), Checks.FULL);
            c.due("count(3)", x.count(3), 24);
            c.due("told(4)", x.told(4), 3 * (round + 1));
            c.due("check()", x.check(), 1);
            c.due("none do then", x.count(3), 0);
            c.due("check() of none", x.check(), 0);
        }
    }

    /** Six THINGS at 10, 20, .. 60, and numbers that wait. */
    private static void checked(int things, int want, int... waits) {
        FromTheMiddle x = new FromTheMiddle();
        for (int i = 1; i <= things; i++) x.thing(0, 10 * i, 1);
        for (int v : waits) x.tell(v);
        c.due("check() of " + waits.length + " numbers, with " + things + " THINGS", x.check(), want);
        c.due("none wait then", x.count(3), 0);
        c.due("once more", x.check(), 0);
        for (int i = 1; i <= things; i++) c.due("FROM stays", x.thingIs(i - 1, 2), 10 * i);
        for (int k = 1; k <= 6; k++) c.due("no ERROR: told(" + k + ")", x.told(k), 0);
    }

    private static void checks() {
        c.says("are FROM of THINGS 0, 1, ..: 0; else 1 and the place (from 0) of the first that isn't so (or for which there is none)");
        checked(0, 0);
        checked(6, 0);
        checked(0, 1, 0);
        checked(1, 0, 10);
        checked(1, 1, 9);
        checked(1, 1, 11);
        checked(1, 1, MIN);
        checked(1, 1, MAX);
        checked(1, 2, 10, 10);
        checked(1, 2, 10, 0);
        checked(2, 0, 10);
        checked(2, 0, 10, 20);
        checked(2, 2, 10, 21);
        checked(2, 1, 20, 20);
        checked(2, 1, 11, 21);
        checked(6, 0, 10, 20, 30, 40, 50, 60);
        checked(6, 6, 10, 20, 30, 40, 50, 61);
        checked(6, 7, 10, 20, 30, 40, 50, 60, 70);
        checked(6, 7, 10, 20, 30, 40, 50, 60, 0, 0);
        checked(5, 6, 10, 20, 30, 40, 50, 60);
        int[] most = new int[24];
        for (int i = 0; i < 24; i++) most[i] = 10 + 10 * i;
        checked(6, 7, most);
    }

    private static void counts() {
        c.says("0 THINGS, 1 START, 2 bytes of THE TAPE, 3 numbers that wait, 4 BODIES in THE TRACE, 5 z (any number)");
        FromTheMiddle x = Whole.full();
        int[] want = {6, 70, 60, 24, 6, 1};
        for (int what = 0; what < 6; what++) c.due("count(" + what + ")", x.count(what), want[what]);
        for (int z : new int[] {MIN, MAX, Checks.BEYOND}) {
            x.seed(z);
            c.due("count(5)", x.count(5), z);
        }
        c.due("what looks like an ERROR is none", x.told(1), 0);
        int beyond = 0;
        for (int what : new int[] {-1, 6, MIN, MAX}) {
            c.due("count(" + what + ")", x.count(what), Checks.BEYOND);
            beyond++;
            c.due("told(1)", x.told(1), beyond);
        }
    }

    private static void told() {
        c.says("How many acts have answered an ERROR LOW - k (k 1 .. 6); BEYOND: another k (counted, too)");
        FromTheMiddle x = new FromTheMiddle();
        int beyond = 0;
        for (int k : new int[] {0, 7, -1, MIN, MAX, -1000000001}) {
            c.due("told(" + k + ")", x.told(k), Checks.BEYOND);
            beyond++;
            c.due("told(1)", x.told(1), beyond);
        }
        x.thing(0, 0, 1);
        x.body(0);
        x.sheet(0, 8, -1);
        x.sheet(0, 8, -1);
        for (int i = 0; i < 27; i++) x.tell(i);
        for (int i = 0; i < 4; i++) x.as(0, 1);
        for (int i = 0; i < 5; i++) x.voice(0, 3, 1);
        int[] want = {beyond, 1, 2, 3, 4, 5};
        for (int round = 0; round < 2; round++) {
            for (int k = 1; k <= 6; k++) c.due("told(" + k + ")", x.told(k), want[k - 1]);
        }
        c.due("a FAULT is none of them", Checks.text(x, 0, "1+"), -12);
        c.due("check() is none of them", x.check(), 2);
        for (int k = 1; k <= 6; k++) c.due("told(" + k + ")", x.told(k), want[k - 1]);
        c.says("An object is used for at most 512 calls");
        FromTheMiddle all = new FromTheMiddle();
        for (int i = 0; i < 511; i++) all.body(i);
        c.due("the 512th call", all.told(2), 511);
    }

    public static void main(String[] args) {
        newObject();
        images();
        fewer();
        notInImages();
        waiting();
        checks();
        counts();
        told();
        c.end();
    }
}
