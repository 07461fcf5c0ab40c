/** Promises 10 to 13: THE TAPE, TEXTS, what they make. */
public final class TextsTest {
    private static final Checks c = new Checks();

    private static void feeding() {
        FromTheMiddle x = new FromTheMiddle();
        c.due("feed(0, 0)", x.feed(0, 0), Checks.BEYOND);
        c.due("feed(0, 9)", x.feed(0, 9), Checks.BEYOND);
        c.due("feed(0, -1)", x.feed(0, -1), Checks.BEYOND);
        for (int i = 1; i <= 7; i++) c.due("feed", x.feed(-1, 8), 8 * i);
        c.due("five more", x.feed(0, 5), Checks.FULL);
        c.due("BEYOND ahead of FULL", x.feed(0, 9), Checks.BEYOND);
        c.due("56 stay", x.count(2), 56);
        c.due("four more", x.feed(0, 4), 60);
        c.due("one more", x.feed(0, 1), Checks.FULL);
        c.due("text(2)", x.text(2), Checks.BEYOND);
        c.due("text(-1)", x.text(-1), Checks.BEYOND);
        c.due("THE TAPE stays", x.count(2), 60);
        c.due("bytes of 255", x.text(0), -10);
        c.due("THE TAPE is empty", x.count(2), 0);
        c.due("the lowest byte first: 4-1", x.feed(0x55312D34L, 3), 3);
        c.due("text(0)", x.text(0), 1);
        c.due("law", x.law(0, 0, 0, 0), 3);
    }

    private static void fault(String told, int place) {
        FromTheMiddle x = new FromTheMiddle();
        Checks.text(x, 0, "7");
        c.due("FAULT of " + told, Checks.text(x, 0, told), place < 0 ? 1 : -10 - place);
        c.due("THE TAPE is empty", x.count(2), 0);
        if (place >= 0) c.due("the one ahead stays", x.law(0, 0, 0, 0), 7);
    }

    private static void faults() {
        fault("", 0);
        fault("x", 0);
        fault("h", 0);
        fault(")", 0);
        fault("+1", 0);
        fault("-1", 0);
        fault("1 ", 1);
        fault(" 1", 0);
        fault("1+", 2);
        fault("1++1", 2);
        fault("1234", -1);
        fault("12345", 4);
        fault("00001", 4);
        fault("c1", 1);
        fault("1c", 1);
        fault("cc", 1);
        fault("(1", 2);
        fault("(1))", 3);
        fault("()", 1);
        fault("(1)2", 3);
        fault("1(2)", 1);
        fault("1!", 1);
        fault("!", 1);
        fault("1<2<3", 3);
        fault("1<2=3", 3);
        fault("1+1>2*2=3", 7);
        fault("(1<2)<3", -1);
        fault("1<(2<3)", -1);
        fault("1<2&2<3|3=4", -1);
        fault("1<2&2<3>4", 7);
        fault("1==2", 2);
        fault("0=1<1|5", 3);
        fault("!!!!!1", -1);
        fault("!!!!!!1", 5);
        fault("(((((1)))))", -1);
        fault("((((((1))))))", 5);
        fault("!(!(!1))", -1);
        fault("!(!(!(1)))", 5);
        fault("!(!(!1)", 7);
        fault("!1+!2+!3+!4+!5+!6", -1);
        fault("(1)+(2)+(3)+(4)+(5)+(6)", -1);
        fault("!(1)+((((!5))))", -1);
        fault("1\u0000", 1);
        fault("\u00b1", 0);
        fault("1|", 2);
        fault("1|2&", 4);
        fault("1+2*3/4%5-6+c*t/w%c-0|1&2<3|4=5&6>7+c*t/w%c-1234|9999*12345", 58);
        fault("1+2*3/4%5-6+c*t/w%c-0|1&2<3|4=5&6>7+c*t/w%c-1234|99999*1234-", 53);
        fault("1111+1111+1111+1111+1111+1111+1111+1111+1111+1111+1111+1111+", 60);
    }

    private static void names() {
        FromTheMiddle x = new FromTheMiddle();
        c.due("ctw are of BROKEN", Checks.text(x, 0, "c+t*w"), 1);
        c.due("not of HARM", Checks.text(x, 1, "n+t"), -12);
        c.due("hnk are of HARM", Checks.text(x, 1, "h+n*k"), 1);
        c.due("not of BROKEN", Checks.text(x, 0, "n"), -10);
        c.due("c, t, w in order", x.law(0, 2, 3, 5), 17);
        c.due("h, n, k in order", x.law(1, 2, 3, -5), -13);
        c.due("untell(0)", x.untell(0), 1);
        c.due("again", x.untell(0), 0);
        c.due("the other stays", x.law(1, 2, 3, -5), -13);
        Checks.text(x, 0, "7");
        c.due("untell of a short one", x.untell(0), 1);
        c.due("c by 3", x.law(0, 9, 0, 0), 3);
        c.due("untell(-1)", x.untell(-1), Checks.BEYOND);
        c.due("untell(2)", x.untell(2), Checks.BEYOND);
        c.due("law(-1)", x.law(-1, 0, 0, 0), Checks.BEYOND);
        c.due("law(2)", x.law(2, 0, 0, 0), Checks.BEYOND);
    }

    /** What a TEXT of HARM makes of h 7, n -3, k 0. */
    private static void made(String told, int want) {
        FromTheMiddle x = new FromTheMiddle();
        c.due("text " + told, Checks.text(x, 1, told), 1);
        c.due(told, x.law(1, 7, -3, 0), want);
    }

    private static void worth() {
        made("1+2*3", 7);
        made("(1+2)*3", 9);
        made("9-3-2", 4);
        made("90/3/2", 15);
        made("90/3*2", 60);
        made("h/n", -2);
        made("n/2", -1);
        made("h%n", 1);
        made("n%2", -1);
        made("h/k", 0);
        made("h%k", 0);
        made("8-6/k", 8);
        made("!h", 0);
        made("!k", 1);
        made("!!h", 1);
        made("!k+1", 2);
        made("!h*5", 0);
        made("!(h*k)", 1);
        made("h|k", 1);
        made("k|k", 0);
        made("h&n", 1);
        made("h&k", 0);
        made("2<3", 1);
        made("3<3", 0);
        made("3=3", 1);
        made("h=n", 0);
        made("h>n", 1);
        made("n>h", 0);
        made("3>3", 0);
        made("1|0&0", 1);
        made("(1|0)&0", 0);
        made("1+1=2", 1);
        made("0=1&1|5<6", 1);
        made("1<2+5", 1);
        made("0007", 7);
        made("9999*9999*9999-9999*9999*9999", 0);
    }

    private static void wraps() {
        FromTheMiddle x = new FromTheMiddle();
        Checks.text(x, 1, "h+n<0");
        c.due("a sum wraps", x.law(1, Integer.MAX_VALUE, 1, 0), 1);
        Checks.text(x, 1, "h/n=h");
        c.due("the least by -1 wraps", x.law(1, Integer.MIN_VALUE, -1, 0), 1);
        Checks.text(x, 1, "h%n");
        c.due("and leaves 0", x.law(1, Integer.MIN_VALUE, -1, 0), 0);
        Checks.text(x, 1, "h*n=0-h");
        c.due("a product wraps", x.law(1, Integer.MIN_VALUE, -1, 0), 1);
    }

    private static void helds() {
        FromTheMiddle x = new FromTheMiddle();
        c.due("without a TEXT c by 3", x.law(0, 11, 0, 0), 3);
        c.due("at least 0", x.law(0, -11, 0, 0), 0);
        c.due("99 at most", x.law(0, 299, 0, 0), 99);
        c.due("held", x.law(0, 300, 0, 0), 99);
        c.due("without a TEXT h", x.law(1, -98, 5, 5), -98);
        c.due("held below", x.law(1, -100, 0, 0), -99);
        c.due("held above", x.law(1, Integer.MAX_VALUE, 0, 0), 99);
        Checks.text(x, 0, "c");
        c.due("with one it is no third", x.law(0, 11, 0, 0), 11);
        c.due("held below", x.law(0, -1, 0, 0), 0);
        c.due("held above", x.law(0, 100, 0, 0), 99);
        Checks.text(x, 1, "h");
        c.due("held below", x.law(1, -100, 0, 0), -99);
        c.due("held above", x.law(1, 100, 0, 0), 99);
        Checks.text(x, 0, "0");
        c.due("a TEXT that is 0 is one", x.law(0, 99, 0, 0), 0);
    }

    public static void main(String[] args) {
        feeding();
        faults();
        names();
        worth();
        wraps();
        helds();
        c.end();
    }
}
