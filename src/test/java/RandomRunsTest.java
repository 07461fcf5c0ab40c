import java.lang.reflect.Method;
import java.util.ArrayList;
import java.util.Arrays;
import java.util.Comparator;
import java.util.List;

/**
 * Runs of 512 calls on a FromTheMiddle and on the SlowModel, which must answer alike. The calls are drawn,
 * but by a seed, so that they are always the same.
 */
public final class RandomRunsTest {
    private static final int RUNS = 400;
    private static final int CALLS = 512;
    private static final String[][] SIGNS = {
        {"c", "t", "w", "0", "7", "42", "999", "1234", "9999"}, {"h", "n", "k", "0", "7", "42", "999", "1234", "9999"}};
    private static final String[] JOINS = {"|", "&", "<", "=", ">", "+", "-", "*", "/", "%"};

    private long z;

    private RandomRunsTest(long seed) {
        z = seed;
    }

    private int upTo(int n) {
        z = z * 6364136223846793005L + 1442695040888963407L;
        return (int) ((z >>> 33) % n);
    }

    /** From a to b, or now and then a little beyond, or far. */
    private int around(int a, int b) {
        int chance = upTo(60);
        if (chance == 0) return a - 1 - upTo(2);
        if (chance == 1) return b + 1 + upTo(2);
        if (chance == 2) return new int[] {Integer.MIN_VALUE, Integer.MAX_VALUE, -1000000002, 1 << 30}[upTo(4)];
        if (chance < 6) return a;
        if (chance < 9) return b;
        return a + upTo(b - a + 1);
    }

    private int anyInt() {
        switch (upTo(4)) {
            case 0: return upTo(20) - 10;
            case 1: return upTo(2000) - 1000;
            case 2: return new int[] {Integer.MIN_VALUE, Integer.MAX_VALUE, 1 << 30, -1000000001}[upTo(4)];
            default: return (int) (z >>> 17);
        }
    }

    private String operand(int use, int depth) {
        int chance = upTo(6);
        if (depth > 0 && chance == 0) return "!" + operand(use, depth - 1);
        if (depth > 0 && chance < 3) return "(" + expression(use, depth - 1) + ")";
        return SIGNS[use][upTo(SIGNS[use].length)];
    }

    private String expression(int use, int depth) {
        StringBuilder told = new StringBuilder(operand(use, depth));
        for (int i = upTo(4); i > 0; i--) told.append(JOINS[upTo(10)]).append(operand(use, depth));
        return told.toString();
    }

    private String someText() {
        String told = expression(upTo(8) == 0 ? 1 : upTo(2), upTo(7));
        if (upTo(4) == 0) {
            int at = upTo(told.length() + 1);
            String sign = new String[] {"(", ")", "!", "5", "c", "h", "x", " ", "+", "\u00e9", "\u0000"}[upTo(11)];
            told = told.substring(0, at) + sign + told.substring(upTo(2) == 0 ? at : Math.min(told.length(), at + 1));
        }
        return told.length() > 60 ? told.substring(0, 60) : told;
    }

    private int wallValue(int what, SlowModel model) {
        switch (what) {
            case 0: return upTo(3) == 0 ? around(100, 4000) : upTo(3) == 0 ? near(model) : around(100, 400);
            case 1: return around(50, 200);
            case 2: return around(0, 9);
            case 3: return around(-9, 9);
            case 4: return around(1, 8);
            default: return around(0, 1);
        }
    }

    /** A LENGTH that whole TILES may be cheated in to. */
    private int near(SlowModel model) {
        int n = 1 + upTo(8);
        return n * model.tile + (n - 1) * upTo(11);
    }

    private int from(SlowModel model) {
        int chance = upTo(8);
        if (chance == 0) return around(0, 4000);
        if (chance < 4) return around(0, model.length);
        int[] piece = randomPiece(model);
        return Math.max(0, piece[upTo(2)] + upTo(5) - 2);
    }

    private int width(SlowModel model, int from) {
        if (upTo(2) == 0) return upTo(2) == 0 ? around(1, 999) : around(1, 40);
        return Math.max(1, randomPiece(model)[upTo(2)] - from + upTo(5) - 2);
    }

    private int[] randomPiece(SlowModel model) {
        List<int[]> pieces = model.laid(upTo(model.rows), model.start);
        return pieces.get(upTo(3) == 0 ? pieces.size() - 1 : upTo(pieces.size()));
    }

    private int sheetNumber(SlowModel model, int i) {
        int chance = upTo(5);
        if (chance == 0) return anyInt();
        if (chance == 1) return around(0, 4000);
        if (chance == 2) return upTo(300);
        List<int[]> pieces = model.laid(0, 1 + upTo(model.tile));
        return i >= 0 && i < pieces.size() ? SlowModel.width(pieces.get(i)) : model.tile;
    }

    private Object[] arguments(String name, SlowModel model) {
        int thing = around(0, Math.max(0, model.things.size() - 1));
        int row = around(0, model.rows - 1);
        int sheet = around(0, upTo(2) == 0 ? 1 : 3);
        switch (name) {
            case "wall": { int what = around(0, 5); return new Object[] {what, wallValue(what, model)}; }
            case "wallIs": return new Object[] {around(0, 6)};
            case "begin": return new Object[] {around(1, model.tile)};
            case "thing": { int from = from(model); return new Object[] {around(0, 69), from, width(model, from)}; }
            case "thingIs": return new Object[] {thing, around(0, 3)};
            case "become": return new Object[] {thing, around(0, 69)};
            case "as": return new Object[] {thing, around(0, 6)};
            case "hang": return new Object[] {thing, from(model)};
            case "untell": case "text": return new Object[] {around(0, 1)};
            case "law": return new Object[] {around(0, 1), anyInt(), anyInt(), anyInt()};
            case "piece": return new Object[] {row, around(-1, model.laid(0, model.start).size())};
            case "rowIs": return new Object[] {row, around(0, 3)};
            case "seen": return new Object[] {thing, row, around(0, 4)};
            case "buy": return new Object[] {around(0, 5)};
            case "loose": return new Object[] {around(1, 40)};
            case "seed": case "tell": return new Object[] {upTo(2) == 0 ? anyInt() : heard(model)};
            case "best": return new Object[] {around(0, 2)};
            case "calm": case "cheat": case "middle": return new Object[] {around(0, 1)};
            case "odds": return new Object[] {upTo(2) == 0 ? around(0, 200) : around(0, 60), around(0, 1)};
            case "fits": return new Object[] {sheet, around(0, 1)};
            case "voice": return new Object[] {thing, around(0, 3), anyInt()};
            case "body": return new Object[] {around(0, Math.max(0, model.trace.size() - 1))};
            case "sheet": {
                int bits = new int[] {8, 8, 16, 16, 32, 0, anyInt()}[upTo(7)];
                return new Object[] {sheet, bits, upTo(2) == 0 ? around(0, 24) : around(1, 3)};
            }
            case "put": { int i = upTo(4) == 0 ? around(0, 24) : around(0, 2); return new Object[] {sheet, i, sheetNumber(model, i)}; }
            case "move": return new Object[] {sheet, around(0, 3), around(0, 3), around(0, 3), around(0, 3)};
            case "places": case "judge": return new Object[] {sheet};
            case "count": return new Object[] {around(0, 5)};
            case "told": return new Object[] {around(1, 6)};
            default: return new Object[0];
        }
    }

    /** What check() would hear gladly as the next number that waits. */
    private int heard(SlowModel model) {
        int i = model.waits.size();
        return i < model.things.size() ? model.things.get(i)[2] : upTo(4000);
    }

    /** Calls a method of both; the number of wrong answers. */
    private static int both(Method mine, Method slow, FromTheMiddle x, SlowModel model, Object... given) throws Exception {
        Object got = mine.invoke(x, given);
        Object want = slow.invoke(model, given);
        if (got.equals(want)) return 0;
        System.out.println(mine.getName() + Arrays.toString(given) + " answered " + got + ", due is " + want);
        return 1;
    }

    private int run(Method[] mine, Method[] slow) throws Exception {
        FromTheMiddle x = new FromTheMiddle();
        SlowModel model = new SlowModel();
        int wrong = 0;
        for (int call = 0; call < CALLS && wrong == 0; call++) {
            int at = upTo(mine.length);
            String name = mine[at].getName();
            // What changes little is asked less, so that a run has THINGS and ROWS.
            if (name.equals("wall") && upTo(3) == 0) continue;
            if (name.equals("restore") && upTo(3) > 0) continue;
            if (!name.equals("feed")) {
                wrong += both(mine[at], slow[at], x, model, arguments(name, model));
                continue;
            }
            if (upTo(3) == 0) {
                wrong += both(mine[at], slow[at], x, model, z, around(1, 8));
                continue;
            }
            String told = someText();
            for (int i = 0; i < told.length() && call < CALLS; i += 8, call++) {
                int n = Math.min(8, told.length() - i);
                long word = 0;
                for (int j = n - 1; j >= 0; j--) word = word << 8 | told.charAt(i + j) & 255;
                wrong += both(mine[at], slow[at], x, model, word, n);
            }
            for (int i = 0; i < mine.length; i++) {
                if (mine[i].getName().equals("text")) wrong += both(mine[i], slow[i], x, model, upTo(2));
            }
        }
        return wrong;
    }

    public static void main(String[] args) throws Exception {
        List<Method> mine = new ArrayList<>();
        for (Method m : FromTheMiddle.class.getDeclaredMethods()) {
            if (java.lang.reflect.Modifier.isPublic(m.getModifiers())) mine.add(m);
        }
        mine.sort(Comparator.comparing(Method::getName));
        Method[] slow = new Method[mine.size()];
        for (int i = 0; i < slow.length; i++) {
            slow[i] = SlowModel.class.getMethod(mine.get(i).getName(), mine.get(i).getParameterTypes());
        }
        int wrong = 0;
        int runs = args.length > 0 ? Integer.parseInt(args[0]) : RUNS;
        for (int seed = 1; seed <= runs; seed++) {
            int here = new RandomRunsTest(seed).run(mine.toArray(new Method[0]), slow);
            if (here > 0) System.out.println("  in the run of seed " + seed);
            wrong += here;
        }
        System.out.println(runs + " runs, " + wrong + " wrong");
        if (wrong > 0 || mine.size() != 37) System.exit(1);
    }
}
