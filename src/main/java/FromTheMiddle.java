/**
 * A wall of tiles laid in rows from a START on, with THINGS that hang on it. The words in capitals are
 * those of the document (../shared/DOC.md), which says what each public method answers.
 */
public final class FromTheMiddle {
    private static final int LOW = -1000000000;
    private static final int BEYOND = 1;
    private static final int NONE = 2;
    private static final int STATE = 3;
    private static final int FULL = 4;
    private static final int KIND = 5;
    private static final int PARTED = 6;

    private static final int LENGTH = 0;
    private static final int TILE = 1;
    private static final int JOINT = 2;
    private static final int SKEW = 3;
    private static final int ROWS = 4;
    private static final int BOND = 5;
    private static final int START = 6;
    private static final int[] LEAST = {100, 50, 0, -9, 1, 0};
    private static final int[] MOST = {4000, 200, 9, 9, 8, 1};
    private static final int SHORTEST_ROW = 100;
    private static final int WIDEST_JOINT = 9;

    private static final int THING = 0;
    private static final int PIPE = 1;
    private static final int OUTLET = 2;
    private static final int MIRROR = 3;
    private static final int TAP = 4;
    private static final int SWITCH = 5;
    private static final int SHELF = 6;
    private static final int THINGS = 6;
    private static final int FARTHEST_FROM = 4000;
    private static final int WIDEST_THING = 999;
    private static final int NEAR = 10;
    private static final int FAR = 1000000;

    private static final int BROKEN = 0;
    private static final int HARM = 1;
    private static final String BROKEN_NAMES = "ctw";
    private static final String HARM_NAMES = "hnk";
    private static final int TAPE = 60;
    private static final int NO_FAULT = -1;
    private static final int FAULTS = -10;

    private static final int BOX = 40;
    private static final int MOST_DRAWS = 40;
    private static final int WIDEST_ODDS = 200;
    private static final int SHEET = 24;
    private static final int WAITING = 24;
    private static final int TRACE = 30;
    private static final int DRIPS = 0;
    private static final int SCORES = 1;
    private static final int SNAPS = 2;
    private static final int PARTS = 3;

    private final Kept now = new Kept();
    private final Kept kept = new Kept();
    private int images;
    private final Numbers errors = new Numbers(PARTED + 1);
    private final Sheet[] sheets = {new Sheet(), new Sheet(), new Sheet(), new Sheet()};
    private final Row laid = new Row();
    private final Reader reader = new Reader();
    private final Reckoner reckoner = new Reckoner();
    private final Voices voices = new Voices();

    public FromTheMiddle() {
        errors.fillWithZeros(PARTED + 1);
    }

    // ---- the wall, things

    public int wall(int what, int v) {
        if (what < LENGTH || what > BOND || v < LEAST[what] || v > MOST[what]) {
            return error(BEYOND);
        }
        int was = is(what);
        now.wall.set(what, v);
        if (what == TILE) {
            now.wall.set(START, v);
        }
        return was;
    }

    public int wallIs(int what) {
        return what < LENGTH || what > START ? error(BEYOND) : is(what);
    }

    public int begin(int first) {
        if (first < 1 || first > is(TILE)) {
            return error(BEYOND);
        }
        int was = is(START);
        now.wall.set(START, first);
        return was;
    }

    public int thing(int km, int from, int width) {
        if (!isKindAndMark(km) || !isFrom(from) || width < 1 || width > WIDEST_THING) {
            return error(BEYOND);
        }
        if (now.kinds.room() < 1) {
            return error(FULL);
        }
        now.kinds.add(km / 10);
        now.marks.add(km % 10);
        now.froms.add(from);
        now.widths.add(width);
        return now.kinds.size() - 1;
    }

    public int thingIs(int thing, int what) {
        if (!isThing(thing)) {
            return error(BEYOND);
        }
        switch (what) {
            case 0: return now.kinds.get(thing);
            case 1: return now.marks.get(thing);
            case 2: return now.froms.get(thing);
            case 3: return now.widths.get(thing);
            default: return error(BEYOND);
        }
    }

    public int become(int thing, int km) {
        if (!isThing(thing) || !isKindAndMark(km)) {
            return error(BEYOND);
        }
        int was = now.kinds.get(thing);
        now.kinds.set(thing, km / 10);
        now.marks.set(thing, km % 10);
        return was;
    }

    public int as(int thing, int kind) {
        if (!isThing(thing) || kind < THING || kind > SHELF) {
            return error(BEYOND);
        }
        return isOfKind(now.kinds.get(thing), kind) ? now.marks.get(thing) : error(KIND);
    }

    public int hang(int thing, int from) {
        if (!isThing(thing) || !isFrom(from)) {
            return error(BEYOND);
        }
        int was = now.froms.get(thing);
        now.froms.set(thing, from);
        return was;
    }

    // ---- texts

    public int feed(long word, int n) {
        if (n < 1 || n > 8) {
            return error(BEYOND);
        }
        if (now.tape.room() < n) {
            return error(FULL);
        }
        for (int i = 0; i < n; i++) {
            now.tape.add((int) (word >>> (8 * i)) & 255);
        }
        return now.tape.size();
    }

    public int text(int use) {
        if (!isUse(use)) {
            return error(BEYOND);
        }
        int fault = reader.read(now.tape, use == BROKEN ? BROKEN_NAMES : HARM_NAMES);
        now.tape.clear();
        if (fault != NO_FAULT) {
            return FAULTS - fault;
        }
        now.textOf(use).copy(reader.codes);
        return 1;
    }

    public int untell(int use) {
        if (!isUse(use)) {
            return error(BEYOND);
        }
        int were = now.textOf(use).size() > 0 ? 1 : 0;
        now.textOf(use).clear();
        return were;
    }

    public int law(int use, int a, int b, int c) {
        return isUse(use) ? ruled(use, a, b, c) : error(BEYOND);
    }

    // ---- rows as they are laid

    public int piece(int row, int i) {
        if (!isRow(row) || i < -1) {
            return error(BEYOND);
        }
        lay(row, is(START));
        if (i == -1) {
            return laid.pieces;
        }
        return i < laid.pieces ? laid.width(i) : error(NONE);
    }

    public int rowIs(int row, int what) {
        if (!isRow(row)) {
            return error(BEYOND);
        }
        lay(row, is(START));
        switch (what) {
            case 0: return rowLength(row);
            case 1: return laid.cuts();
            case 2: return laid.narrowest();
            case 3: return firstPiece(row, is(START));
            default: return error(BEYOND);
        }
    }

    public int seen(int thing, int row, int what) {
        if (!isThing(thing) || !isRow(row)) {
            return error(BEYOND);
        }
        lay(row, is(START));
        int harm = harmOf(thing);
        switch (what) {
            case 0: return laid.joints;
            case 1: return laid.gap;
            case 2: return laid.touches;
            case 3: return laid.hides;
            case 4: return harm;
            default: return error(BEYOND);
        }
    }

    public int buy(int what) {
        switch (what) {
            case 0: return tilesToBuy();
            case 1: return quotient(tilesToBuy() + BOX - 1, BOX);
            case 2: return cutsBy(is(START));
            case 3: return narrowestBy(is(START));
            case 4: return halves();
            case 5: return harmBy(is(START));
            default: return error(BEYOND);
        }
    }

    public int loose(int n) {
        if (n < 1 || n > MOST_DRAWS) {
            return error(BEYOND);
        }
        for (int i = 0; i < n; i++) {
            changeByDraws();
        }
        return is(START);
    }

    public int seed(int v) {
        int was = now.z;
        now.z = v;
        return was;
    }

    // ---- what would be

    public int best(int what) {
        if (what < 0 || what > 2) {
            return error(BEYOND);
        }
        int start = bestStart();
        if (what == 0) {
            return start;
        }
        return what == 1 ? narrowestBy(start) : cutsBy(start);
    }

    public int calm(int what) {
        if (what < 0 || what > 1) {
            return error(BEYOND);
        }
        int start = 1;
        int harm = harmBy(1);
        for (int other = 2; other <= is(TILE); other++) {
            int harmThen = harmBy(other);
            if (harmThen < harm) {
                start = other;
                harm = harmThen;
            }
        }
        return what == 0 ? start : harm;
    }

    public int cheat(int what) {
        if (what < 0 || what > 1) {
            return error(BEYOND);
        }
        for (int joint = 0; joint <= WIDEST_JOINT; joint++) {
            // A JOINT behind the last TILE, too, makes of both sides whole steps.
            int reach = is(LENGTH) + joint;
            int step = is(TILE) + joint;
            if (rest(reach, step) == 0) {
                return what == 0 ? joint : quotient(reach, step);
            }
        }
        return error(NONE);
    }

    public int middle(int what) {
        if (what < 0 || what > 1) {
            return error(BEYOND);
        }
        int side = what == 0 ? (is(LENGTH) - is(JOINT)) / 2 : (is(LENGTH) - is(TILE)) / 2 - is(JOINT);
        int start = rest(side, is(TILE) + is(JOINT));
        return start < 1 || start > is(TILE) ? is(TILE) : start;
    }

    public int odds(int v, int part) {
        if (v < 0 || v > WIDEST_ODDS || part < 0 || part > 1) {
            return error(BEYOND);
        }
        int wide = 0;
        for (int start = 1; start <= is(TILE); start++) {
            if (narrowestBy(start) >= v) {
                wide++;
            }
        }
        return quotient(part == 0 ? wide : is(TILE), commonDivisor(wide, is(TILE)));
    }

    public int fits(int sheet, int what) {
        Sheet widths = sheetAt(sheet);
        if (widths == null || what < 0 || what > 1) {
            return error(BEYOND);
        }
        if (widths.isMissing()) {
            return error(NONE);
        }
        int fitting = 0;
        int least = 0;
        for (int start = is(TILE); start >= 1; start--) {
            lay(0, start);
            if (rightFromFirst(widths.numbers) == widths.numbers.size()) {
                fitting++;
                least = start;
            }
        }
        if (what == 0) {
            return fitting;
        }
        return fitting > 0 ? least : error(NONE);
    }

    // ---- voices, sheets, images, what is told

    public int voice(int thing, int voice, int x) {
        if (!isThing(thing) || voice < DRIPS || voice > PARTS) {
            return error(BEYOND);
        }
        int mark = now.marks.get(thing);
        // Only parts leads to a quotient, and always to this one; asked ahead, so that THE TRACE stays.
        if (voice == PARTS && mark == thing) {
            return error(PARTED);
        }
        return voices.speak(now.kinds.get(thing), thing, mark, voice, x);
    }

    public int body(int i) {
        return voices.trace.stands(i) ? voices.trace.get(i) : error(NONE);
    }

    public int sheet(int sheet, int bits, int n) {
        Sheet changed = sheetAt(sheet);
        if (changed == null || bits != 0 && bits != 8 && bits != 16 && bits != 32) {
            return error(BEYOND);
        }
        if (bits != 0 && n < 0) {
            return error(STATE);
        }
        if (bits != 0 && n > SHEET) {
            return error(BEYOND);
        }
        changed.bits = bits;
        changed.numbers.fillWithZeros(n);
        return 1;
    }

    public int put(int sheet, int i, int v) {
        Sheet changed = sheetAt(sheet);
        if (changed == null) {
            return error(BEYOND);
        }
        if (changed.isMissing()) {
            return error(NONE);
        }
        if (!changed.numbers.stands(i)) {
            return error(BEYOND);
        }
        changed.numbers.set(i, changed.lowestBits(v));
        return 1;
    }

    public int move(int sheet, int i, int other, int j, int n) {
        Sheet source = sheetAt(sheet);
        Sheet target = sheetAt(other);
        if (source == null || target == null) {
            return error(BEYOND);
        }
        if (source.isMissing() || target.isMissing()) {
            return error(NONE);
        }
        if (source.bits != target.bits) {
            return error(KIND);
        }
        if (!source.numbers.stretches(i, n) || !target.numbers.stretches(j, n)) {
            return error(BEYOND);
        }
        target.numbers.take(source.numbers, i, j, n);
        return n;
    }

    public int places(int sheet) {
        Sheet froms = sheetAt(sheet);
        if (froms == null) {
            return error(BEYOND);
        }
        if (froms.isMissing()) {
            return error(NONE);
        }
        int most = Math.min(froms.numbers.size(), now.froms.size());
        int placed = 0;
        while (placed < most && isFrom(froms.numbers.get(placed))) {
            now.froms.set(placed, froms.numbers.get(placed));
            placed++;
        }
        return placed;
    }

    public int judge(int sheet) {
        Sheet widths = sheetAt(sheet);
        if (widths == null) {
            return error(BEYOND);
        }
        if (widths.isMissing()) {
            return error(NONE);
        }
        lay(0, is(START));
        return rightFromFirst(widths.numbers);
    }

    public int image() {
        kept.copy(now);
        images++;
        return images;
    }

    public int restore() {
        if (images == 0) {
            return error(NONE);
        }
        now.copy(kept);
        return is(START);
    }

    public int tell(int v) {
        if (now.waits.room() < 1) {
            return error(FULL);
        }
        now.waits.add(v);
        return now.waits.size();
    }

    public int check() {
        int waiting = now.waits.size();
        int wrong = 0;
        for (int i = 0; i < waiting && wrong == 0; i++) {
            if (!now.froms.stands(i) || now.froms.get(i) != now.waits.get(i)) {
                wrong = 1 + i;
            }
        }
        now.waits.clear();
        return wrong;
    }

    public int count(int what) {
        switch (what) {
            case 0: return now.kinds.size();
            case 1: return is(START);
            case 2: return now.tape.size();
            case 3: return now.waits.size();
            case 4: return voices.trace.size();
            case 5: return now.z;
            default: return error(BEYOND);
        }
    }

    public int told(int k) {
        return k < BEYOND || k > PARTED ? error(BEYOND) : errors.get(k);
    }

    // ---- what the acts ask

    private int error(int k) {
        errors.set(k, errors.get(k) + 1);
        return LOW - k;
    }

    private int is(int what) {
        return now.wall.get(what);
    }

    private boolean isThing(int thing) {
        return now.kinds.stands(thing);
    }

    private boolean isRow(int k) {
        return k >= 0 && k < is(ROWS);
    }

    private Sheet sheetAt(int i) {
        return i >= 0 && i < sheets.length ? sheets[i] : null;
    }

    private static boolean isKindAndMark(int km) {
        return km >= 0 && km <= 10 * SHELF + 9;
    }

    private static boolean isFrom(int from) {
        return from >= 0 && from <= FARTHEST_FROM;
    }

    private static boolean isUse(int use) {
        return use == BROKEN || use == HARM;
    }

    private static boolean isOfKind(int own, int kind) {
        return kind == THING || kind == own || kind == kindAbove(own);
    }

    private static int kindAbove(int kind) {
        switch (kind) {
            case TAP: return PIPE;
            case SWITCH: return OUTLET;
            case SHELF: return MIRROR;
            default: return THING;
        }
    }

    private static int quotient(int a, int b) {
        return b == 0 ? 0 : a / b;
    }

    private static int rest(int a, int b) {
        return b == 0 ? 0 : a % b;
    }

    private static int within(int v, int least, int most) {
        return Math.max(least, Math.min(most, v));
    }

    // A fraction of 0 has its lower number as divisor, which makes it 0 by 1.
    private static int commonDivisor(int a, int b) {
        for (int divisor = b; divisor > 1; divisor--) {
            if (rest(a, divisor) == 0 && rest(b, divisor) == 0) {
                return divisor;
            }
        }
        return 1;
    }

    // ---- rows, by any START

    private int rowLength(int k) {
        return Math.max(SHORTEST_ROW, is(LENGTH) + k * is(SKEW));
    }

    private int firstPiece(int k, int start) {
        if (is(BOND) == 0 || k % 2 == 0) {
            return start;
        }
        int shifted = start + is(TILE) / 2;
        return shifted > is(TILE) ? shifted - is(TILE) : shifted;
    }

    private void lay(int k, int start) {
        laid.lay(firstPiece(k, start), rowLength(k), is(TILE), is(JOINT));
    }

    private int narrowestBy(int start) {
        int narrowest = is(TILE);
        for (int k = 0; k < is(ROWS); k++) {
            lay(k, start);
            narrowest = Math.min(narrowest, laid.narrowest());
        }
        return narrowest;
    }

    private int cutsBy(int start) {
        int cuts = 0;
        for (int k = 0; k < is(ROWS); k++) {
            lay(k, start);
            cuts += laid.cuts();
        }
        return cuts;
    }

    private int bestStart() {
        int best = 1;
        int narrowest = narrowestBy(1);
        int cuts = cutsBy(1);
        for (int start = 2; start <= is(TILE); start++) {
            int narrowestThen = narrowestBy(start);
            if (narrowestThen < narrowest) {
                continue;
            }
            int cutsThen = cutsBy(start);
            if (narrowestThen > narrowest || cutsThen < cuts) {
                best = start;
                narrowest = narrowestThen;
                cuts = cutsThen;
            }
        }
        return best;
    }

    private int rightFromFirst(Numbers widths) {
        int most = Math.min(widths.size(), laid.pieces);
        int right = 0;
        while (right < most && widths.get(right) == laid.width(right)) {
            right++;
        }
        return right;
    }

    // ---- what must be bought, what is harmed

    private int pieces() {
        int pieces = 0;
        for (int k = 0; k < is(ROWS); k++) {
            lay(k, is(START));
            pieces += laid.pieces;
        }
        return pieces;
    }

    private int halves() {
        int halves = 0;
        for (int k = 0; k < is(ROWS); k++) {
            lay(k, is(START));
            halves += laid.halves();
        }
        return halves;
    }

    private int tilesToBuy() {
        int halves = halves();
        int tiles = pieces() - halves + (halves + 1) / 2;
        return tiles + ruled(BROKEN, cutsBy(is(START)), tiles, is(TILE));
    }

    private int harmBy(int start) {
        int harm = 0;
        for (int k = 0; k < is(ROWS); k++) {
            lay(k, start);
            for (int thing = 0; thing < now.kinds.size(); thing++) {
                harm += harmOf(thing);
            }
        }
        return harm;
    }

    /** HARM of a THING on the row that is laid. */
    private int harmOf(int thing) {
        int from = now.froms.get(thing);
        laid.look(from, from + now.widths.get(thing));
        int kind = now.kinds.get(thing);
        return ruled(HARM, harms(kind, now.marks.get(thing), laid), thing, kind);
    }

    private static int harms(int kind, int mark, Row row) {
        int plain = row.joints > 0 ? 0 : 1;
        int pipe = row.gap < NEAR ? plain * (mark + 1) : plain;
        int outlet = row.touches - plain;
        switch (kind) {
            case PIPE: return pipe;
            case OUTLET: return outlet;
            case MIRROR: return -row.hides;
            case TAP: return 2 * pipe;
            case SWITCH: return Math.max(0, outlet - 1);
            case SHELF: return mark - row.hides;
            default: return plain;
        }
    }

    /** What the TEXT of a USE, or its want, makes of the three NAMES. */
    private int ruled(int use, int a, int b, int c) {
        Numbers text = now.textOf(use);
        boolean told = text.size() > 0;
        int made = told ? reckoner.value(text, a, b, c) : a;
        if (use == HARM) {
            return within(made, -99, 99);
        }
        return within(told ? made : made / 3, 0, 99);
    }

    // ---- draws

    private int draw() {
        now.z = now.z * 1103515245 + 12345;
        return now.z >>> 8;
    }

    private void changeByDraws() {
        now.wall.set(START, 1 + rest(draw(), is(TILE)));
        if (now.kinds.size() > 0) {
            int thing = rest(draw(), now.kinds.size());
            now.froms.set(thing, rest(draw(), is(LENGTH) + 1));
        }
    }

    /** Ints in a row, up to a limit; a place that does not stand reads as 0 and takes nothing. */
    private static final class Numbers {
        private final int[] held;
        private int size;

        Numbers(int limit) {
            held = new int[Math.max(limit, 0)];
        }

        int size() {
            return size;
        }

        int room() {
            return held.length - size;
        }

        boolean stands(int i) {
            return i >= 0 && i < size;
        }

        boolean stretches(int i, int n) {
            return i >= 0 && n >= 0 && n <= size && i <= size - n;
        }

        int get(int i) {
            return i >= 0 && i < size ? held[i] : 0;
        }

        void set(int i, int v) {
            if (i >= 0 && i < size) {
                held[i] = v;
            }
        }

        void add(int v) {
            if (size < held.length) {
                held[size] = v;
                size++;
            }
        }

        int pop() {
            if (size < 1) {
                return 0;
            }
            size--;
            return held[size];
        }

        void clear() {
            size = 0;
        }

        void fillWithZeros(int n) {
            size = Math.max(0, Math.min(n, held.length));
            for (int i = 0; i < size; i++) {
                held[i] = 0;
            }
        }

        void take(Numbers source, int i, int j, int n) {
            if (source.stretches(i, n) && stretches(j, n)) {
                System.arraycopy(source.held, i, held, j, n);
            }
        }

        void copy(Numbers source) {
            fillWithZeros(source.size);
            take(source, 0, 0, size);
        }
    }

    /** All that an IMAGE keeps. A TEXT is its codes as the Reader makes them; without codes there is none. */
    private static final class Kept {
        final Numbers wall = new Numbers(START + 1);
        final Numbers kinds = new Numbers(THINGS);
        final Numbers marks = new Numbers(THINGS);
        final Numbers froms = new Numbers(THINGS);
        final Numbers widths = new Numbers(THINGS);
        final Numbers tape = new Numbers(TAPE);
        final Numbers broken = new Numbers(TAPE);
        final Numbers harm = new Numbers(TAPE);
        final Numbers waits = new Numbers(WAITING);
        int z = 1;

        Kept() {
            wall.add(2000);
            wall.add(150);
            wall.add(2);
            wall.add(0);
            wall.add(1);
            wall.add(0);
            wall.add(150);
        }

        Numbers textOf(int use) {
            return use == BROKEN ? broken : harm;
        }

        void copy(Kept source) {
            wall.copy(source.wall);
            kinds.copy(source.kinds);
            marks.copy(source.marks);
            froms.copy(source.froms);
            widths.copy(source.widths);
            tape.copy(source.tape);
            broken.copy(source.broken);
            harm.copy(source.harm);
            waits.copy(source.waits);
            z = source.z;
        }
    }

    /**
     * A row as it is laid. Only its first and its last piece can be CUTS, and all others begin one step
     * behind the one ahead: so pieces are reckoned, not walked along, which keeps CALM cheap.
     */
    private static final class Row {
        private int first;
        private int end;
        private int tile;
        private int joint;
        int pieces;
        int joints;
        int gap;
        int touches;
        int hides;

        void lay(int first, int end, int tile, int joint) {
            this.first = first;
            this.end = end;
            this.tile = tile;
            this.joint = joint;
            pieces = 1 + behindFirstAheadOf(end);
        }

        int beginning(int i) {
            return i <= 0 ? 0 : first + joint + (i - 1) * (tile + joint);
        }

        int ending(int i) {
            return Math.min(end, first + i * (tile + joint));
        }

        int width(int i) {
            return ending(i) - beginning(i);
        }

        int narrowest() {
            return Math.min(width(0), width(pieces - 1));
        }

        int cuts() {
            return ofEdges(isCut(width(0)), isCut(width(pieces - 1)));
        }

        int halves() {
            return ofEdges(isHalf(width(0)), isHalf(width(pieces - 1)));
        }

        /** Sees the JOINTS, the GAP, what TOUCHES and what HIDES of a THING on the row. */
        void look(int from, int to) {
            int last = pieces - 1;
            int aheadOfFrom = Math.min(last, behindFirstAheadOf(from));
            joints = Math.min(last, behindFirstAheadOf(to + joint + 1)) - aheadOfFrom;
            touches = 1 + Math.min(last, behindFirstAheadOf(to)) - endingNotBehind(from);
            hides = ofEdges(isHidden(0, from, to), isHidden(last, from, to));
            gap = Math.min(gapOfBeginnings(1 + aheadOfFrom, from), gapOfEndings(endingNotBehind(to), to));
        }

        private int ofEdges(boolean first, boolean last) {
            return (first ? 1 : 0) + (last && pieces > 1 ? 1 : 0);
        }

        private boolean isCut(int width) {
            return width < tile;
        }

        private boolean isHalf(int width) {
            return 2 * width + 3 <= tile;
        }

        private boolean isHidden(int i, int from, int to) {
            return isCut(width(i)) && beginning(i) >= from && ending(i) <= to;
        }

        /** How many pieces behind the first would begin ahead of a place, if the row went on. */
        private int behindFirstAheadOf(int place) {
            int far = place - first - joint;
            return far < 1 ? 0 : 1 + quotient(far - 1, tile + joint);
        }

        private int endingNotBehind(int place) {
            if (place >= end) {
                return pieces;
            }
            return place < first ? 0 : 1 + quotient(place - first, tile + joint);
        }

        // Of the places at which pieces begin or end only the two around the one that is asked can be nearest;
        // at 0, where nothing is ahead, the first piece begins.

        private int gapOfBeginnings(int ahead, int place) {
            int near = place - beginning(ahead - 1);
            return ahead < pieces ? Math.min(near, beginning(ahead) - place) : near;
        }

        private int gapOfEndings(int ahead, int place) {
            int near = ahead > 0 ? place - ending(ahead - 1) : FAR;
            return ahead < pieces ? Math.min(near, ending(ahead) - place) : near;
        }
    }

    /** A row of numbers of so many bits; of 0 bits if it is missing. */
    private static final class Sheet {
        final Numbers numbers = new Numbers(SHEET);
        int bits;

        boolean isMissing() {
            return bits == 0;
        }

        int lowestBits(int v) {
            if (bits == 8) {
                return (byte) v;
            }
            return bits == 16 ? (short) v : v;
        }
    }

    /**
     * Reads a TEXT into codes that stand in the order in which they are worked out: a number as it is, the
     * NAMES as -1, -2, -3, a sign as its byte below 0.
     */
    private static final class Reader {
        private static final int MOST_OPEN = 5;
        private static final int MOST_DIGITS = 4;
        private static final int COMPARING = 3;
        private static final int NOT = 6;

        final Numbers codes = new Numbers(TAPE);
        private final Numbers pending = new Numbers(TAPE);
        private int open;
        private int digits;
        private boolean wantsOperand;

        /** The FAULT, or NO_FAULT: then the codes are the TEXT's. */
        int read(Numbers tape, String names) {
            codes.clear();
            pending.clear();
            open = 0;
            digits = 0;
            wantsOperand = true;
            for (int i = 0; i < tape.size(); i++) {
                int sign = tape.get(i);
                boolean goesOn = wantsOperand ? beginOperand(sign, names) : goOn(sign);
                if (!goesOn) {
                    return i;
                }
            }
            settle(1);
            return wantsOperand || pending.size() > 0 ? tape.size() : NO_FAULT;
        }

        private boolean beginOperand(int sign, String names) {
            if (sign == '!' || sign == '(') {
                pending.add(sign);
                open++;
                return open <= MOST_OPEN;
            }
            wantsOperand = false;
            if (isDigit(sign)) {
                codes.add(sign - '0');
                digits = 1;
                return true;
            }
            int name = names.indexOf((char) sign);
            codes.add(-1 - name);
            return name >= 0;
        }

        private boolean goOn(int sign) {
            if (isDigit(sign)) {
                return addDigit(sign - '0');
            }
            digits = 0;
            if (sign == ')') {
                return close();
            }
            int rank = rankOf(sign);
            if (rank < 1 || rank >= NOT) {
                return false;
            }
            // One comparison can't stand on another's left, while all other signs go from left to right.
            settle(rank == COMPARING ? rank + 1 : rank);
            if (rank == COMPARING && rankOf(pending.get(pending.size() - 1)) == COMPARING) {
                return false;
            }
            pending.add(sign);
            wantsOperand = true;
            return true;
        }

        private boolean addDigit(int digit) {
            if (digits < 1 || digits >= MOST_DIGITS) {
                return false;
            }
            codes.add(codes.pop() * 10 + digit);
            digits++;
            return true;
        }

        private boolean close() {
            settle(1);
            if (pending.size() < 1) {
                return false;
            }
            pending.pop();
            open--;
            return true;
        }

        /** Signs of a rank or above it come to the codes, the latest first; a ( stops them. */
        private void settle(int rank) {
            for (int i = pending.size() - 1; i >= 0 && rankOf(pending.get(i)) >= rank; i--) {
                int sign = pending.pop();
                codes.add(-sign);
                if (sign == '!') {
                    open--;
                }
            }
        }

        private static boolean isDigit(int sign) {
            return sign >= '0' && sign <= '9';
        }

        private static int rankOf(int sign) {
            switch (sign) {
                case '|': return 1;
                case '&': return 2;
                case '<': case '=': case '>': return COMPARING;
                case '+': case '-': return 4;
                case '*': case '/': case '%': return 5;
                case '!': return NOT;
                default: return 0;
            }
        }
    }

    /** Works out the codes that the Reader makes. */
    private static final class Reckoner {
        private final Numbers stack = new Numbers(TAPE);

        int value(Numbers codes, int a, int b, int c) {
            stack.clear();
            for (int i = 0; i < codes.size(); i++) {
                int code = codes.get(i);
                switch (code) {
                    case -1: stack.add(a); break;
                    case -2: stack.add(b); break;
                    case -3: stack.add(c); break;
                    case -'!': stack.add(truth(stack.pop() == 0)); break;
                    default: stack.add(code >= 0 ? code : joined(-code)); break;
                }
            }
            return stack.pop();
        }

        private int joined(int sign) {
            int right = stack.pop();
            int left = stack.pop();
            switch (sign) {
                case '|': return truth(left != 0 || right != 0);
                case '&': return truth(left != 0 && right != 0);
                case '<': return truth(left < right);
                case '=': return truth(left == right);
                case '>': return truth(left > right);
                case '+': return left + right;
                case '-': return left - right;
                case '*': return left * right;
                case '/': return quotient(left, right);
                case '%': return rest(left, right);
                default: return 0;
            }
        }

        private static int truth(boolean so) {
            return so ? 1 : 0;
        }
    }

    /**
     * VOICES of a THING. Each BODY begins by calling another one, but for those that end a chain, and
     * works on what that one answers: so a chain is gone down, and then back up, along THE TRACE.
     */
    private static final class Voices {
        private static final int LAST = 0;

        final Numbers trace = new Numbers(TRACE);
        private int kind;
        private int number;
        private int mark;

        int speak(int kind, int number, int mark, int voice, int x) {
            this.kind = kind;
            this.number = number;
            this.mark = mark;
            trace.clear();
            int body = bodyOf(voice);
            int answer = chained(body, x);
            return body == 21 ? answer + chained(bodyOf(SCORES), 1) : answer;
        }

        private int chained(int first, int x) {
            int base = trace.size();
            int body = first;
            int value = x;
            for (int i = 0; i < TRACE && body != LAST; i++) {
                trace.add(body);
                value = handedDown(body, value);
                body = calledBy(body);
            }
            for (int i = trace.size() - 1; i >= base; i--) {
                value = handedUp(trace.get(i), value);
            }
            return value;
        }

        private int bodyOf(int voice) {
            switch (voice) {
                case DRIPS: return kind == PIPE ? 20 : kind == TAP ? 50 : kind == SHELF ? 70 : 10;
                case SCORES: return kind == OUTLET ? 30 : kind == SWITCH ? 60 : kind == SHELF ? 71 : 11;
                case SNAPS: return kind == TAP ? 51 : isOfKind(kind, MIRROR) ? 40 : 12;
                default: return isOfKind(kind, PIPE) ? 21 : 13;
            }
        }

        private int calledBy(int body) {
            switch (body) {
                case 11: return bodyOf(DRIPS);
                case 12: return bodyOf(SCORES);
                case 20: return 10;
                case 21: return 13;
                case 30: case 71: return 11;
                case 40: case 51: return 12;
                case 50: return 20;
                case 60: return 30;
                default: return LAST;
            }
        }

        private int handedDown(int body, int x) {
            switch (body) {
                case 10: return x + number;
                case 13: return quotient(x, mark - number);
                case 40: return x / 2;
                case 60: return x + 1;
                case 70: return 9;
                default: return x;
            }
        }

        private int handedUp(int body, int value) {
            switch (body) {
                case 11: return value * 2;
                case 12: return value - mark;
                case 20: return value - 4;
                case 30: return 0 - value;
                case 50: return value * 3;
                case 51: return value ^ number;
                case 71: return value + mark;
                default: return value;
            }
        }
    }
}
