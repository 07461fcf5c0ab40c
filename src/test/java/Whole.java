import java.lang.reflect.Method;
import java.util.ArrayList;
import java.util.List;

/** Objects with something of everything, calls by name, and all that can be asked of an object at its end. */
final class Whole {
    private final FromTheMiddle x;
    private final List<Integer> answers = new ArrayList<>();

    private Whole(FromTheMiddle x) {
        this.x = x;
    }

    /** 3 THINGS, 3 ROWS, SHEET 3 missing, 5 bytes on THE TAPE, 2 numbers waiting; the IMAGE is another one. */
    static FromTheMiddle roomy() {
        FromTheMiddle x = new FromTheMiddle();
        int[] wall = {500, 80, 3, -4, 3, 1};
        for (int what = 0; what < wall.length; what++) x.wall(what, wall[what]);
        x.begin(33);
        x.thing(14, 40, 30);
        x.thing(52, 100, 60);
        x.thing(69, 0, 45);
        Checks.text(x, 0, "c*2+t%7-w/50");
        Checks.text(x, 1, "h*3-n+k");
        x.tell(1);
        x.image();
        x.wall(0, 700);
        x.begin(21);
        x.hang(1, 90);
        x.check();
        x.tell(40);
        x.tell(90);
        Checks.feed(x, "h|n&k");
        x.seed(77);
        sheet(x, 0, 8, 3);
        sheet(x, 1, 16, 4);
        sheet(x, 2, 32, 2);
        x.voice(2, 2, 5);
        return x;
    }

    /** 6 THINGS, 8 ROWS, 60 bytes on THE TAPE, 24 numbers waiting; no SHEET is missing. */
    static FromTheMiddle full() {
        FromTheMiddle x = new FromTheMiddle();
        x.wall(4, 8);
        x.begin(70);
        for (int i = 0; i < 6; i++) x.thing(11 * i, 200 + i, 10 * i + 1);
        Checks.text(x, 0, "w-t-c");
        x.image();
        x.hang(0, 9);
        x.tell(9);
        for (int i = 1; i < 24; i++) x.tell(200 + i);
        Checks.feed(x, "1111+2222+3333+4444+5555+6666+7777+8888+9999+0000+1234-h*n|k");
        for (int s = 0; s < 4; s++) sheet(x, s, s < 2 ? 16 : 8, s == 0 ? 24 : 4);
        x.voice(4, 2, 99);
        return x;
    }

    private static void sheet(FromTheMiddle x, int sheet, int bits, int n) {
        x.sheet(sheet, bits, n);
        for (int i = 0; i < Math.min(n, 5); i++) x.put(sheet, i, 10 * sheet + i + 1);
    }

    /** A call by name; what it is given are ints, but for the word of feed. */
    static int call(FromTheMiddle x, String name, int... given) {
        for (Method m : FromTheMiddle.class.getDeclaredMethods()) {
            if (!m.getName().equals(name)) continue;
            Object[] boxed = new Object[given.length];
            for (int i = 0; i < given.length; i++) {
                if (m.getParameterTypes()[i] == long.class) boxed[i] = (long) given[i];
                else boxed[i] = given[i];
            }
            try {
                return (int) m.invoke(x, boxed);
            } catch (ReflectiveOperationException e) {
                throw new IllegalStateException(name, e);
            }
        }
        throw new IllegalStateException("no " + name);
    }

    /** All that can be asked but told(); the object is of no use behind this. */
    static List<Integer> of(FromTheMiddle x) {
        Whole w = new Whole(x);
        w.ask("body", 0, 7);
        w.kept();
        w.sheets();
        w.note(x.restore());
        w.kept();
        w.note(x.image());
        return w.answers;
    }

    private void note(int answer) {
        answers.add(answer);
    }

    private void ask(String name, int from, int to) {
        for (int i = from; i < to; i++) note(call(x, name, i));
    }

    /** What an IMAGE has. */
    private void kept() {
        ask("count", 0, 6);
        ask("wallIs", 0, 7);
        for (int thing = 0; thing < 6; thing++) {
            for (int what = 0; what < 4; what++) note(x.thingIs(thing, what));
        }
        note(x.law(0, 5, 7, 11));
        note(x.law(1, 5, 7, 11));
        note(x.check());
        ask("text", 1, 2);
        note(x.law(1, 2, 3, 5));
    }

    private void sheets() {
        while (x.count(0) < 6) x.thing(0, 0, 1);
        for (int s = 0; s < 4; s++) {
            for (int other = 0; other < 4; other++) note(x.move(s, 0, other, 0, 0));
            froms(s);
            int n = 0;
            while (n < 25 && x.put(s, n, 0) == 1) n++;
            note(n);
            x.put(s, 0, 0x10105);
            froms(s);
        }
    }

    private void froms(int sheet) {
        note(x.places(sheet));
        for (int thing = 0; thing < 6; thing++) note(x.thingIs(thing, 2));
    }
}
