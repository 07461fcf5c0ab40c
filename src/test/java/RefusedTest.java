import java.util.List;
import java.util.function.Supplier;

/**
 * Of each act all its ERRORS, in the order in which they are asked: that it answers so, that told() tells
 * of it, and that nothing else is changed; and of all that only asks that nothing is changed.
 */
public final class RefusedTest {
    private static final Checks c = new Checks();
    private static final int MIN = Checks.MIN;
    private static final int MAX = Checks.MAX;
    private static final int ANY = 0;

    private static int differences(List<Integer> a, List<Integer> b) {
        int differences = Math.abs(a.size() - b.size());
        for (int i = 0; i < Math.min(a.size(), b.size()); i++) {
            if (!a.get(i).equals(b.get(i))) differences++;
        }
        return differences;
    }

    /** A call that leaves all as it was; its ERROR is told (ANY: it is not refused). */
    private static void leaves(Supplier<FromTheMiddle> made, int error, String name, int... given) {
        StringBuilder call = new StringBuilder(name).append('(');
        for (int i = 0; i < given.length; i++) call.append(i > 0 ? ", " : "").append(given[i]);
        call.append(')');
        FromTheMiddle x = made.get();
        FromTheMiddle y = made.get();
        int answer = Whole.call(x, name, given);
        if (error == ANY) c.due(call + " is refused", answer >= Checks.PARTED && answer <= Checks.BEYOND ? 1 : 0, 0);
        else c.due(call.toString(), answer, error);
        for (int k = 1; k <= 6; k++) c.due("told(" + k + ") behind " + call, x.told(k), y.told(k) + (error == -1000000000 - k ? 1 : 0));
        c.due("what " + call + " changes", differences(Whole.of(x), Whole.of(y)), 0);
    }

    private static void beyond(String name, int... given) {
        leaves(Whole::roomy, Checks.BEYOND, name, given);
    }

    private static void none(String name, int... given) {
        leaves(Whole::roomy, Checks.NONE, name, given);
    }

    private static void asks(String name, int... given) {
        leaves(Whole::roomy, ANY, name, given);
    }

    private static void wall() {
        for (int what : new int[] {-1, 6, 7, MIN, MAX}) beyond("wall", what, 1);
        int[][] limits = {{100, 4000}, {50, 200}, {0, 9}, {-9, 9}, {1, 8}, {0, 1}};
        for (int what = 0; what < 6; what++) {
            for (int v : new int[] {limits[what][0] - 1, limits[what][1] + 1, MIN, MAX}) beyond("wall", what, v);
        }
        for (int what : new int[] {-1, 7, MIN, MAX}) beyond("wallIs", what);
        for (int what = 0; what < 7; what++) asks("wallIs", what);
        for (int first : new int[] {0, -1, 81, MIN, MAX}) beyond("begin", first);
    }

    private static void things() {
        for (int km : new int[] {-1, 70, MIN, MAX}) beyond("thing", km, 0, 1);
        for (int from : new int[] {-1, 4001, MIN, MAX}) beyond("thing", 0, from, 1);
        for (int width : new int[] {0, -1, 1000, MIN, MAX}) beyond("thing", 0, 0, width);
        leaves(Whole::full, Checks.FULL, "thing", 0, 0, 1);
        leaves(Whole::full, Checks.FULL, "thing", 69, 4000, 999);
        // BEYOND is asked ahead of FULL
        leaves(Whole::full, Checks.BEYOND, "thing", 70, 0, 1);
        leaves(Whole::full, Checks.BEYOND, "thing", 0, 4001, 1);
        leaves(Whole::full, Checks.BEYOND, "thing", 0, 0, 1000);
        for (int thing : new int[] {-1, 3, MIN, MAX}) {
            beyond("thingIs", thing, 0);
            beyond("become", thing, 0);
            beyond("as", thing, 0);
            beyond("hang", thing, 0);
        }
        leaves(Whole::full, Checks.BEYOND, "thingIs", 6, 0);
        for (int what : new int[] {-1, 4, MIN, MAX}) beyond("thingIs", 0, what);
        for (int what = 0; what < 4; what++) asks("thingIs", 2, what);
        for (int km : new int[] {-1, 70, MIN, MAX}) beyond("become", 0, km);
        for (int kind : new int[] {-1, 7, MIN, MAX}) beyond("as", 0, kind);
        // a PIPE, a SWITCH, a SHELF
        for (int kind : new int[] {2, 3, 4, 5, 6}) leaves(Whole::roomy, Checks.KIND, "as", 0, kind);
        for (int kind : new int[] {1, 3, 4, 6}) leaves(Whole::roomy, Checks.KIND, "as", 1, kind);
        for (int kind : new int[] {1, 2, 4, 5}) leaves(Whole::roomy, Checks.KIND, "as", 2, kind);
        asks("as", 0, 1);
        asks("as", 1, 2);
        asks("as", 2, 0);
        for (int from : new int[] {-1, 4001, MIN, MAX}) beyond("hang", 0, from);
    }

    private static void texts() {
        for (int n : new int[] {0, -1, 9, MIN, MAX}) beyond("feed", 7, n);
        for (int n = 1; n <= 8; n++) leaves(Whole::full, Checks.FULL, "feed", 7, n);
        // BEYOND is asked ahead of FULL
        for (int n : new int[] {0, 9, MAX}) leaves(Whole::full, Checks.BEYOND, "feed", 7, n);
        for (int use : new int[] {-1, 2, MIN, MAX}) {
            beyond("text", use);
            leaves(Whole::full, Checks.BEYOND, "text", use);
            beyond("untell", use);
            beyond("law", use, 1, 1, 1);
        }
        asks("law", 0, MIN, MAX, -1);
        asks("law", 1, MIN, MAX, -1);
        leaves(FromTheMiddle::new, ANY, "untell", 0);
        leaves(FromTheMiddle::new, ANY, "untell", 1);
    }

    private static void rows() {
        // of 10 pieces
        asks("piece", 0, -1);
        asks("piece", 0, 9);
        none("piece", 0, 10);
        none("piece", 0, MAX);
        beyond("piece", 0, -2);
        beyond("piece", 0, MIN);
        for (int row : new int[] {-1, 3, MIN, MAX}) {
            beyond("piece", row, -1);
            // BEYOND is asked ahead of NONE
            beyond("piece", row, MAX);
            beyond("rowIs", row, 0);
            beyond("seen", 0, row, 0);
        }
        for (int what = 0; what < 4; what++) asks("rowIs", 2, what);
        for (int what : new int[] {-1, 4, MIN, MAX}) beyond("rowIs", 0, what);
        for (int what = 0; what < 5; what++) asks("seen", 2, 2, what);
        for (int what : new int[] {-1, 5, MIN, MAX}) beyond("seen", 0, 0, what);
        for (int thing : new int[] {-1, 3, MIN, MAX}) beyond("seen", thing, 0, 0);
        for (int what = 0; what < 6; what++) asks("buy", what);
        for (int what : new int[] {-1, 6, MIN, MAX}) beyond("buy", what);
        for (int n : new int[] {0, -1, 41, MIN, MAX}) beyond("loose", n);
    }

    private static void thoughts() {
        for (int what : new int[] {-1, 3, MIN, MAX}) beyond("best", what);
        for (String name : new String[] {"calm", "cheat", "middle"}) {
            for (int what : new int[] {-1, 2, MIN, MAX}) beyond(name, what);
        }
        for (int what = 0; what < 3; what++) asks("best", what);
        for (int what = 0; what < 2; what++) {
            asks("calm", what);
            asks("middle", what);
            leaves(() -> Checks.wall(400, 100, 2), ANY, "cheat", what);
            // 700 of TILES of 80
            none("cheat", what);
            asks("odds", 0, what);
            asks("odds", 200, what);
            asks("fits", 2, 0);
            none("fits", 3, what);
        }
        for (int v : new int[] {-1, 201, MIN, MAX}) beyond("odds", v, 0);
        for (int part : new int[] {-1, 2, MIN, MAX}) beyond("odds", 0, part);
        for (int sheet : new int[] {-1, 4, MIN, MAX}) beyond("fits", sheet, 0);
        for (int what : new int[] {-1, 2, MIN, MAX}) {
            beyond("fits", 0, what);
            // BEYOND is asked ahead of NONE
            beyond("fits", 3, what);
        }
        asks("fits", 0, 0);
        none("fits", 0, 1);
    }

    private static void voices() {
        for (int thing : new int[] {-1, 3, MIN, MAX}) {
            beyond("voice", thing, 0, 1);
            // BEYOND is asked ahead of PARTED
            beyond("voice", thing, 3, 1);
        }
        for (int voice : new int[] {-1, 4, MIN, MAX}) beyond("voice", 0, voice, 1);
        leaves(() -> parted(6), Checks.BEYOND, "voice", 2, 4, 1);
        for (int kind = 0; kind < 7; kind++) {
            int made = kind;
            leaves(() -> parted(made), Checks.PARTED, "voice", 2, 3, 1);
            leaves(() -> parted(made), Checks.PARTED, "voice", 2, 3, 0);
        }
        // of 5 BODIES
        for (int i = 0; i < 5; i++) asks("body", i);
        for (int i : new int[] {-1, 5, 29, 30, MIN, MAX}) none("body", i);
    }

    /** THING 2 is of a KIND, with m 2. */
    private static FromTheMiddle parted(int kind) {
        FromTheMiddle x = Whole.roomy();
        x.become(2, 10 * kind + 2);
        return x;
    }

    private static void sheets() {
        for (int sheet : new int[] {-1, 4, MIN, MAX}) {
            beyond("sheet", sheet, 8, 1);
            beyond("sheet", sheet, 0, 1);
            // BEYOND of the SHEET is asked ahead of STATE
            beyond("sheet", sheet, 8, -1);
            beyond("put", sheet, 0, 1);
            beyond("move", sheet, 0, 0, 0, 1);
            beyond("move", 0, 0, sheet, 0, 1);
            // BEYOND of the SHEETS is asked ahead of NONE
            beyond("move", sheet, 0, 3, 0, 1);
            beyond("move", 3, 0, sheet, 0, 1);
            beyond("places", sheet);
            beyond("judge", sheet);
        }
        for (int bits : new int[] {-1, 1, 7, 9, 15, 17, 24, 31, 33, 64, MIN, MAX}) {
            beyond("sheet", 0, bits, 1);
            // BEYOND of the bits is asked ahead of STATE
            beyond("sheet", 0, bits, -1);
        }
        for (int bits : new int[] {8, 16, 32}) {
            leaves(Whole::roomy, Checks.STATE, "sheet", 0, bits, -1);
            leaves(Whole::roomy, Checks.STATE, "sheet", 3, bits, MIN);
            beyond("sheet", 0, bits, 25);
            beyond("sheet", 3, bits, MAX);
        }
        for (int i : new int[] {-1, 3, MIN, MAX}) beyond("put", 0, i, 1);
        // NONE is asked ahead of BEYOND of the number
        for (int i : new int[] {0, -1, MAX}) none("put", 3, i, 1);
        none("places", 3);
        none("judge", 3);
        for (int sheet = 0; sheet < 3; sheet++) asks("judge", sheet);
    }

    private static void moves() {
        none("move", 3, 0, 0, 0, 1);
        none("move", 0, 0, 3, 0, 1);
        none("move", 3, 0, 3, 0, 0);
        // NONE is asked ahead of BEYOND of the numbers
        none("move", 3, -1, 0, -1, -1);
        for (int[] unlike : new int[][] {{0, 1}, {1, 0}, {0, 2}, {2, 0}, {1, 2}, {2, 1}}) {
            leaves(Whole::roomy, Checks.KIND, "move", unlike[0], 0, unlike[1], 0, 1);
            leaves(Whole::roomy, Checks.KIND, "move", unlike[0], 0, unlike[1], 0, 0);
            // KIND is asked ahead of BEYOND of the numbers
            leaves(Whole::roomy, Checks.KIND, "move", unlike[0], -1, unlike[1], 9, -1);
        }
        // from 24 numbers to 4
        int[][] wrong = {{0, 0, -1}, {0, 0, MIN}, {-1, 0, 1}, {MIN, 0, 1}, {0, -1, 1}, {0, MIN, 1}, {-1, 0, 0}, {0, -1, 0},
            {24, 0, 1}, {23, 0, 2}, {0, 4, 1}, {0, 3, 2}, {0, 0, 5}, {25, 0, 0}, {0, 5, 0}, {MAX, 0, 1}, {0, MAX, 1}, {0, 0, MAX},
            {MAX, 0, MAX}, {1, 1, MAX}};
        for (int[] w : wrong) leaves(Whole::full, Checks.BEYOND, "move", 0, w[0], 1, w[1], w[2]);
        leaves(Whole::full, ANY, "move", 0, 0, 0, 0, 24);
        leaves(Whole::full, ANY, "move", 0, 24, 1, 4, 0);
        leaves(Whole::full, ANY, "move", 1, 4, 0, 24, 0);
    }

    private static void rest() {
        leaves(FromTheMiddle::new, Checks.NONE, "restore");
        leaves(Whole::full, Checks.FULL, "tell", 1);
        leaves(Whole::full, Checks.FULL, "tell", MIN);
        for (int what : new int[] {-1, 6, MIN, MAX}) beyond("count", what);
        for (int what = 0; what < 6; what++) asks("count", what);
        for (int k : new int[] {0, -1, 7, MIN, MAX}) beyond("told", k);
        for (int k = 1; k <= 6; k++) asks("told", k);
        leaves(FromTheMiddle::new, ANY, "check");
    }

    public static void main(String[] args) {
        c.says("Each act tells its ERRORS in the order in which they are asked; one that answers an ERROR changes nothing");
        wall();
        things();
        texts();
        rows();
        thoughts();
        voices();
        sheets();
        moves();
        rest();
        c.end();
    }
}
