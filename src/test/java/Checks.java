/** What the tests share: due answers, told if they don't come, and an exit code at the end. */
final class Checks {
    static final int BEYOND = -1000000001;
    static final int NONE = -1000000002;
    static final int STATE = -1000000003;
    static final int FULL = -1000000004;
    static final int KIND = -1000000005;
    static final int PARTED = -1000000006;
    static final int MIN = Integer.MIN_VALUE;
    static final int MAX = Integer.MAX_VALUE;

    private String sentence = "";
    private int asked;
    private int wrong;

    /** The document's sentence that the answers asked from now on would break. */
    void says(String sentence) {
        this.sentence = "\"" + sentence + "\": ";
    }

    void due(String call, long got, long want) {
        asked++;
        if (got != want) {
            wrong++;
            System.out.println(sentence + call + " answered " + got + ", due is " + want);
        }
    }

    void end() {
        System.out.println(asked + " answers asked, " + wrong + " wrong");
        if (wrong > 0 || asked == 0) {
            System.exit(1);
        }
    }

    /** Feeds a text to THE TAPE, which must have room for it. */
    static void feed(FromTheMiddle x, String text) {
        for (int at = 0; at < text.length(); at += 8) {
            int n = Math.min(8, text.length() - at);
            long word = 0;
            for (int i = 0; i < n; i++) {
                word |= (long) (text.charAt(at + i) & 255) << (8 * i);
            }
            x.feed(word, n);
        }
    }

    /** What text() answers to a text on an empty TAPE. */
    static int text(FromTheMiddle x, int use, String text) {
        feed(x, text);
        return x.text(use);
    }

    /** A new object with another LENGTH, TILE (START, too) and JOINT. */
    static FromTheMiddle wall(int length, int tile, int joint) {
        FromTheMiddle x = new FromTheMiddle();
        x.wall(0, length);
        x.wall(1, tile);
        x.wall(2, joint);
        return x;
    }
}
