import java.util.ArrayList;
import java.util.List;

/**
 * The document once more, told as plainly as can be: rows are walked along piece by piece, voices are
 * methods of classes under one another, texts are read by one method a rule. Slow, and allowed all of Java.
 * Its public methods are those of FromTheMiddle, so that RandomRunsTest can call both.
 */
public final class SlowModel {
    static final int LOW = -1000000000;

    int length = 2000, tile = 150, joint = 2, skew = 0, rows = 1, bond = 0, start = 150;
    int z = 1;
    List<int[]> things = new ArrayList<>(); // kind, m, from, width
    String[] texts = new String[2];
    String tape = "";
    List<Integer> waits = new ArrayList<>();
    List<Integer> trace = new ArrayList<>();
    int[] sheetBits = new int[4];
    int[][] sheetNumbers = new int[4][0];
    int[] errors = new int[7];
    SlowModel kept;
    int images;

    int err(int k) {
        errors[k]++;
        return LOW - k;
    }

    static boolean in(int v, int a, int b) {
        return a <= v && v <= b;
    }

    void copyFrom(SlowModel o) {
        length = o.length; tile = o.tile; joint = o.joint; skew = o.skew; rows = o.rows; bond = o.bond; start = o.start;
        z = o.z;
        things = new ArrayList<>();
        for (int[] t : o.things) things.add(t.clone());
        texts = o.texts.clone();
        tape = o.tape;
        waits = new ArrayList<>(o.waits);
    }

    // ---- the wall, things

    public int wall(int what, int v) {
        int was;
        switch (what) {
            case 0: if (!in(v, 100, 4000)) return err(1); was = length; length = v; return was;
            case 1: if (!in(v, 50, 200)) return err(1); was = tile; tile = v; start = v; return was;
            case 2: if (!in(v, 0, 9)) return err(1); was = joint; joint = v; return was;
            case 3: if (!in(v, -9, 9)) return err(1); was = skew; skew = v; return was;
            case 4: if (!in(v, 1, 8)) return err(1); was = rows; rows = v; return was;
            case 5: if (!in(v, 0, 1)) return err(1); was = bond; bond = v; return was;
            default: return err(1);
        }
    }

    public int wallIs(int what) {
        return in(what, 0, 6) ? new int[] {length, tile, joint, skew, rows, bond, start}[what] : err(1);
    }

    public int begin(int first) {
        if (!in(first, 1, tile)) return err(1);
        int was = start;
        start = first;
        return was;
    }

    public int thing(int km, int from, int width) {
        if (!in(km, 0, 69) || !in(from, 0, 4000) || !in(width, 1, 999)) return err(1);
        if (things.size() == 6) return err(4);
        things.add(new int[] {km / 10, km % 10, from, width});
        return things.size() - 1;
    }

    public int thingIs(int thing, int what) {
        return in(thing, 0, things.size() - 1) && in(what, 0, 3) ? things.get(thing)[what] : err(1);
    }

    public int become(int thing, int km) {
        if (!in(thing, 0, things.size() - 1) || !in(km, 0, 69)) return err(1);
        int was = things.get(thing)[0];
        things.get(thing)[0] = km / 10;
        things.get(thing)[1] = km % 10;
        return was;
    }

    public int as(int thing, int kind) {
        if (!in(thing, 0, things.size() - 1) || !in(kind, 0, 6)) return err(1);
        Class<?> asked = speaker(kind, 0, 0).getClass();
        return asked.isInstance(speaker(things.get(thing)[0], 0, 0)) ? things.get(thing)[1] : err(5);
    }

    public int hang(int thing, int from) {
        if (!in(thing, 0, things.size() - 1) || !in(from, 0, 4000)) return err(1);
        int was = things.get(thing)[2];
        things.get(thing)[2] = from;
        return was;
    }

    // ---- texts

    public int feed(long word, int n) {
        if (!in(n, 1, 8)) return err(1);
        if (tape.length() + n > 60) return err(4);
        for (int i = 0; i < n; i++) {
            tape += (char) (word & 255);
            word >>= 8;
        }
        return tape.length();
    }

    public int text(int use) {
        if (!in(use, 0, 1)) return err(1);
        String read = tape;
        tape = "";
        try {
            new Parser(read, use, 0, 0, 0).whole();
        } catch (Fault f) {
            return -10 - f.place;
        }
        texts[use] = read;
        return 1;
    }

    public int untell(int use) {
        if (!in(use, 0, 1)) return err(1);
        int were = texts[use] == null ? 0 : 1;
        texts[use] = null;
        return were;
    }

    public int law(int use, int a, int b, int c) {
        return in(use, 0, 1) ? gives(use, a, b, c) : err(1);
    }

    int gives(int use, int a, int b, int c) {
        int v;
        try {
            v = texts[use] != null ? new Parser(texts[use], use, a, b, c).whole() : use == 0 ? a / 3 : a;
        } catch (Fault f) {
            throw new IllegalStateException("a text that was read does not read", f);
        }
        return use == 0 ? Math.max(0, Math.min(99, v)) : Math.max(-99, Math.min(99, v));
    }

    static final class Fault extends Exception {
        private static final long serialVersionUID = 1;
        final int place;

        Fault(int place) {
            this.place = place;
        }
    }

    /** A method a rule; works out the value while it reads. */
    static final class Parser {
        final String s;
        final String names;
        final int[] values;
        int at;
        int open;

        Parser(String s, int use, int a, int b, int c) {
            this.s = s;
            names = use == 0 ? "ctw" : "hnk";
            values = new int[] {a, b, c};
        }

        int whole() throws Fault {
            int v = t();
            if (at < s.length()) throw new Fault(at);
            return v;
        }

        boolean next(String signs) {
            return at < s.length() && signs.indexOf(s.charAt(at)) >= 0;
        }

        int t() throws Fault {
            int v = a();
            while (next("|")) { at++; int w = a(); v = v != 0 | w != 0 ? 1 : 0; }
            return v;
        }

        int a() throws Fault {
            int v = b();
            while (next("&")) { at++; int w = b(); v = v != 0 & w != 0 ? 1 : 0; }
            return v;
        }

        int b() throws Fault {
            int v = sum();
            if (!next("<=>")) return v;
            char sign = s.charAt(at++);
            int w = sum();
            return (sign == '<' ? v < w : sign == '=' ? v == w : v > w) ? 1 : 0;
        }

        int sum() throws Fault {
            int v = product();
            while (next("+-")) v = s.charAt(at++) == '+' ? v + product() : v - product();
            return v;
        }

        int product() throws Fault {
            int v = q();
            while (next("*/%")) {
                char sign = s.charAt(at++);
                int w = q();
                v = sign == '*' ? v * w : w == 0 ? 0 : sign == '/' ? v / w : v % w;
            }
            return v;
        }

        int q() throws Fault {
            if (at >= s.length()) throw new Fault(s.length());
            char sign = s.charAt(at);
            if (next("0123456789")) {
                int v = 0;
                for (int i = 0; i < 4 && next("0123456789"); i++) v = v * 10 + s.charAt(at++) - '0';
                return v;
            }
            if (next(names)) {
                at++;
                return values[names.indexOf(sign)];
            }
            if (!next("!(") || open == 5) throw new Fault(at);
            at++;
            open++;
            int v;
            if (sign == '!') {
                v = q() == 0 ? 1 : 0;
            } else {
                v = t();
                if (!next(")")) throw new Fault(at);
                at++;
            }
            open--;
            return v;
        }
    }

    // ---- rows as they are laid

    int rowLength(int k) {
        return Math.max(100, length + k * skew);
    }

    int firstPiece(int k, int begun) {
        if (bond == 0 || k % 2 == 0) return begun;
        return begun + tile / 2 > tile ? begun + tile / 2 - tile : begun + tile / 2;
    }

    /** Pieces of a row, each as where it begins and ends. */
    List<int[]> laid(int k, int begun) {
        List<int[]> pieces = new ArrayList<>();
        int end = rowLength(k);
        int at = 0;
        int wide = firstPiece(k, begun);
        while (at < end) {
            pieces.add(new int[] {at, Math.min(end, at + wide)});
            at += wide + joint;
            wide = tile;
        }
        return pieces;
    }

    static int width(int[] piece) {
        return piece[1] - piece[0];
    }

    int cutsOf(List<int[]> pieces) {
        int cuts = 0;
        for (int[] p : pieces) if (width(p) < tile) cuts++;
        return cuts;
    }

    int halvesOf(List<int[]> pieces) {
        int halves = 0;
        for (int[] p : pieces) if (2 * width(p) + 3 <= tile) halves++;
        return halves;
    }

    static int narrowestOf(List<int[]> pieces) {
        int least = 100000;
        for (int[] p : pieces) least = Math.min(least, width(p));
        return least;
    }

    int[] seenOn(List<int[]> pieces, int from, int end) {
        int joints = 0, gap = 100000, touches = 0, hides = 0;
        for (int i = 0; i < pieces.size(); i++) {
            int[] p = pieces.get(i);
            if (i + 1 < pieces.size() && p[1] <= end && pieces.get(i + 1)[0] >= from) joints++;
            gap = Math.min(gap, Math.min(Math.abs(p[0] - from), Math.abs(p[1] - end)));
            if (p[0] < end && p[1] > from) touches++;
            if (width(p) < tile && p[0] >= from && p[1] <= end) hides++;
        }
        return new int[] {joints, gap, touches, hides};
    }

    int harmOf(int thing, int[] seen) {
        int[] t = things.get(thing);
        int m = t[1];
        int asThing = seen[0] > 0 ? 0 : 1;
        int asPipe = seen[1] < 10 ? asThing * (m + 1) : asThing;
        int asOutlet = seen[2] - asThing;
        int asMirror = 0 - seen[3];
        int[] all = {asThing, asPipe, asOutlet, asMirror, 2 * asPipe, Math.max(0, asOutlet - 1), asMirror + m};
        return gives(1, all[t[0]], thing, t[0]);
    }

    public int piece(int row, int i) {
        if (!in(row, 0, rows - 1) || i < -1) return err(1);
        List<int[]> pieces = laid(row, start);
        if (i == -1) return pieces.size();
        return i < pieces.size() ? width(pieces.get(i)) : err(2);
    }

    public int rowIs(int row, int what) {
        if (!in(row, 0, rows - 1) || !in(what, 0, 3)) return err(1);
        List<int[]> pieces = laid(row, start);
        return new int[] {rowLength(row), cutsOf(pieces), narrowestOf(pieces), firstPiece(row, start)}[what];
    }

    public int seen(int thing, int row, int what) {
        if (!in(thing, 0, things.size() - 1) || !in(row, 0, rows - 1) || !in(what, 0, 4)) return err(1);
        int[] t = things.get(thing);
        int[] seen = seenOn(laid(row, start), t[2], t[2] + t[3]);
        return what == 4 ? harmOf(thing, seen) : seen[what];
    }

    /** Of all rows: 0 pieces, 1 cuts, 2 the narrowest, 3 halves, 4 harm. */
    int[] all(int begun, boolean withHarm) {
        int[] all = {0, 0, 100000, 0, 0};
        for (int k = 0; k < rows; k++) {
            List<int[]> pieces = laid(k, begun);
            all[0] += pieces.size();
            all[1] += cutsOf(pieces);
            all[2] = Math.min(all[2], narrowestOf(pieces));
            all[3] += halvesOf(pieces);
            for (int t = 0; withHarm && t < things.size(); t++) {
                all[4] += harmOf(t, seenOn(pieces, things.get(t)[2], things.get(t)[2] + things.get(t)[3]));
            }
        }
        return all;
    }

    public int buy(int what) {
        if (!in(what, 0, 5)) return err(1);
        int[] all = all(start, what == 5);
        int tiles = all[0] - all[3] + all[3] / 2 + all[3] % 2;
        tiles += gives(0, all[1], tiles, tile);
        return new int[] {tiles, tiles / 40 + (tiles % 40 > 0 ? 1 : 0), all[1], all[2], all[3], all[4]}[what];
    }

    int draw() {
        z = z * 1103515245 + 12345;
        return z >>> 8;
    }

    public int loose(int n) {
        if (!in(n, 1, 40)) return err(1);
        for (int i = 0; i < n; i++) {
            start = 1 + draw() % tile;
            if (!things.isEmpty()) {
                int[] t = things.get(draw() % things.size());
                t[2] = draw() % (length + 1);
            }
        }
        return start;
    }

    public int seed(int v) {
        int was = z;
        z = v;
        return was;
    }

    // ---- what would be

    public int best(int what) {
        if (!in(what, 0, 2)) return err(1);
        int[] best = {0, -1, 0};
        for (int s = 1; s <= tile; s++) {
            int[] all = all(s, false);
            if (all[2] > best[1] || all[2] == best[1] && all[1] < best[2]) best = new int[] {s, all[2], all[1]};
        }
        return best[what];
    }

    public int calm(int what) {
        if (!in(what, 0, 1)) return err(1);
        int[] calm = {0, Integer.MAX_VALUE};
        for (int s = 1; s <= tile; s++) {
            int harm = all(s, true)[4];
            if (harm < calm[1]) calm = new int[] {s, harm};
        }
        return calm[what];
    }

    public int cheat(int what) {
        if (!in(what, 0, 1)) return err(1);
        for (int j = 0; j <= 9; j++) {
            for (int n = 1; n <= 80; n++) {
                if (n * tile + (n - 1) * j == length) return what == 0 ? j : n;
            }
        }
        return err(2);
    }

    public int middle(int what) {
        if (!in(what, 0, 1)) return err(1);
        int side = what == 0 ? (length - joint) / 2 : (length - tile) / 2 - joint;
        int left = side % (tile + joint);
        return left < 1 || left > tile ? tile : left;
    }

    public int odds(int v, int part) {
        if (!in(v, 0, 200) || !in(part, 0, 1)) return err(1);
        int good = 0;
        for (int s = 1; s <= tile; s++) if (all(s, false)[2] >= v) good++;
        int a = good, b = tile;
        while (b != 0) { int r = a % b; a = b; b = r; }
        return part == 0 ? good / a : tile / a;
    }

    public int fits(int sheet, int what) {
        if (!in(sheet, 0, 3) || !in(what, 0, 1)) return err(1);
        if (sheetBits[sheet] == 0) return err(2);
        int many = 0, least = 0;
        for (int s = 1; s <= tile; s++) {
            if (right(laid(0, s), sheetNumbers[sheet]) < sheetNumbers[sheet].length) continue;
            many++;
            if (many == 1) least = s;
        }
        return what == 0 ? many : many == 0 ? err(2) : least;
    }

    static int right(List<int[]> pieces, int[] widths) {
        for (int i = 0; i < widths.length; i++) {
            if (i >= pieces.size() || width(pieces.get(i)) != widths[i]) return i;
        }
        return widths.length;
    }

    // ---- voices, sheets, images, what is told

    static final class Part extends RuntimeException {
        private static final long serialVersionUID = 1;
    }

    Thing speaker(int kind, int k, int m) {
        Thing t = kind == 0 ? new Thing() : kind == 1 ? new Pipe() : kind == 2 ? new Outlet() : kind == 3 ? new Mirror()
            : kind == 4 ? new Tap() : kind == 5 ? new Switch() : new Shelf();
        t.k = k;
        t.m = m;
        return t;
    }

    static class Thing {
        int k, m;
        List<Integer> bodies = new ArrayList<>();
        int drips(int x) { bodies.add(10); return x + k; }
        int scores(int x) { bodies.add(11); return drips(x) * 2; }
        int snaps(int x) { bodies.add(12); return scores(x) - m; }
        int parts(int x) { bodies.add(13); if (m == k) throw new Part(); return x / (m - k); }
    }

    static class Pipe extends Thing {
        @Override int drips(int x) { bodies.add(20); return super.drips(x) - 4; }
        @Override int parts(int x) { bodies.add(21); return super.parts(x) + scores(1); }
    }

    static class Outlet extends Thing {
        @Override int scores(int x) { bodies.add(30); return 0 - super.scores(x); }
    }

    static class Mirror extends Thing {
        @Override int snaps(int x) { bodies.add(40); return super.snaps(x / 2); }
    }

    static class Tap extends Pipe {
        @Override int drips(int x) { bodies.add(50); return super.drips(x) * 3; }
        @Override int snaps(int x) { bodies.add(51); return super.snaps(x) ^ k; }
    }

    static class Switch extends Outlet {
        @Override int scores(int x) { bodies.add(60); return super.scores(x + 1); }
    }

    static class Shelf extends Mirror {
        @Override int drips(int x) { bodies.add(70); return 9; }
        @Override int scores(int x) { bodies.add(71); return super.scores(x) + m; }
    }

    public int voice(int thing, int voice, int x) {
        if (!in(thing, 0, things.size() - 1) || !in(voice, 0, 3)) return err(1);
        Thing t = speaker(things.get(thing)[0], thing, things.get(thing)[1]);
        int answer;
        try {
            answer = voice == 0 ? t.drips(x) : voice == 1 ? t.scores(x) : voice == 2 ? t.snaps(x) : t.parts(x);
        } catch (Part p) {
            return err(6);
        }
        trace = t.bodies.subList(0, Math.min(30, t.bodies.size()));
        return answer;
    }

    public int body(int i) {
        return in(i, 0, trace.size() - 1) ? trace.get(i) : err(2);
    }

    public int sheet(int sheet, int bits, int n) {
        if (!in(sheet, 0, 3) || !List.of(0, 8, 16, 32).contains(bits)) return err(1);
        if (bits > 0 && n < 0) return err(3);
        if (bits > 0 && n > 24) return err(1);
        sheetBits[sheet] = bits;
        sheetNumbers[sheet] = new int[bits == 0 ? 0 : n];
        return 1;
    }

    public int put(int sheet, int i, int v) {
        if (!in(sheet, 0, 3)) return err(1);
        if (sheetBits[sheet] == 0) return err(2);
        if (!in(i, 0, sheetNumbers[sheet].length - 1)) return err(1);
        int shift = 32 - sheetBits[sheet];
        sheetNumbers[sheet][i] = v << shift >> shift;
        return 1;
    }

    public int move(int sheet, int i, int other, int j, int n) {
        if (!in(sheet, 0, 3) || !in(other, 0, 3)) return err(1);
        if (sheetBits[sheet] == 0 || sheetBits[other] == 0) return err(2);
        if (sheetBits[sheet] != sheetBits[other]) return err(5);
        if (n < 0 || i < 0 || j < 0 || (long) i + n > sheetNumbers[sheet].length
            || (long) j + n > sheetNumbers[other].length) return err(1);
        int[] were = sheetNumbers[sheet].clone();
        for (int a = 0; a < n; a++) sheetNumbers[other][j + a] = were[i + a];
        return n;
    }

    public int places(int sheet) {
        if (!in(sheet, 0, 3)) return err(1);
        if (sheetBits[sheet] == 0) return err(2);
        int placed = 0;
        for (int from : sheetNumbers[sheet]) {
            if (!in(from, 0, 4000) || placed == things.size()) break;
            things.get(placed++)[2] = from;
        }
        return placed;
    }

    public int judge(int sheet) {
        if (!in(sheet, 0, 3)) return err(1);
        if (sheetBits[sheet] == 0) return err(2);
        return right(laid(0, start), sheetNumbers[sheet]);
    }

    public int image() {
        kept = new SlowModel();
        kept.copyFrom(this);
        return ++images;
    }

    public int restore() {
        if (kept == null) return err(2);
        copyFrom(kept);
        return start;
    }

    public int tell(int v) {
        if (waits.size() == 24) return err(4);
        waits.add(v);
        return waits.size();
    }

    public int check() {
        List<Integer> asked = waits;
        waits = new ArrayList<>();
        for (int i = 0; i < asked.size(); i++) {
            if (i >= things.size() || things.get(i)[2] != asked.get(i)) return 1 + i;
        }
        return 0;
    }

    public int count(int what) {
        return in(what, 0, 5)
            ? new int[] {things.size(), start, tape.length(), waits.size(), trace.size(), z}[what] : err(1);
    }

    public int told(int k) {
        return in(k, 1, 6) ? errors[k] : err(1);
    }
}
