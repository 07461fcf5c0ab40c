/** THE TAPE, where a TEXT goes on and where it doesn't, and ints at their ends (Promises 10 to 13). */
public final class TapeTest {
    private static final Checks c = new Checks();
    private static final int MIN = Checks.MIN;
    private static final int MAX = Checks.MAX;
    private static final String DIGITS = "0123456789";
    private static final String OPERANDS = DIGITS + "hnk";
    private static final String OPENING = "!(";
    private static final String JOINS = "|&+-*/%";
    private static final String COMPARING = "<=>";
    private static final String NOTHING = "";

    private static void tape() {
        c.says("The n lowest bytes (1 .. 8) of a word, the lowest first, come to THE TAPE");
        // 4*3, and what stands above isn't read
        long word = 0x5A5A5A5A5A332A34L;
        for (int n = 1; n <= 8; n++) {
            FromTheMiddle x = new FromTheMiddle();
            c.due("feed(.., " + n + ")", x.feed(word, n), n);
            c.due("count(2)", x.count(2), n);
            c.due("text(0)", x.text(0), new int[] {1, -12, 1, -13, -13, -13, -13, -13}[n - 1]);
            c.due("4, or 4*3", x.law(0, 0, 0, 0), new int[] {4, 0, 12, 0, 0, 0, 0, 0}[n - 1]);
        }
        FromTheMiddle x = new FromTheMiddle();
        c.due("the highest byte of a word below 0", x.feed(0x9000000000000031L, 1), 1);
        c.due("isn't read", x.text(0), 1);
        c.due("eight digits", x.feed(0x3131313131313131L, 8), 8);
        c.due("the fifth is a FAULT", x.text(0), -14);
        for (int b : new int[] {0, 31, 32, 127, 128, 255}) {
            c.due("byte " + b, x.feed(b, 1), 1);
            c.due("is read as it is", x.text(0), -10);
            c.due("byte 1, then byte " + b, x.feed(0x31 | (long) b << 8, 2), 2);
            c.due("is read as it is", x.text(0), -11);
        }
        for (int n : new int[] {0, -1, 9, MIN, MAX}) c.due("feed(1, " + n + ")", x.feed(1, n), Checks.BEYOND);
    }

    private static void tapeEnds() {
        c.says("THE TAPE (bytes, at most 60)");
        for (int last = 1; last <= 8; last++) {
            FromTheMiddle x = new FromTheMiddle();
            int there = 0;
            while (there + 8 <= 60 - last) there = x.feed(0x3131313131313131L, 8);
            while (there < 60 - last) there = x.feed(0x31, 1);
            if (last < 8) c.due("one more than fits behind " + there, x.feed(0, last + 1), Checks.FULL);
            c.due("none came", x.count(2), 60 - last);
            c.due("just what fits", x.feed(0x3131313131313131L, last), 60);
            for (int n = 1; n <= 8; n++) c.due("behind the last", x.feed(0, n), Checks.FULL);
            c.due("BEYOND is asked ahead of FULL", x.feed(0, 9), Checks.BEYOND);
            c.due("BEYOND is asked ahead of FULL", x.feed(0, 0), Checks.BEYOND);
            c.due("60 stay", x.count(2), 60);
            c.due("text(2)", x.text(2), Checks.BEYOND);
            c.due("THE TAPE stays", x.count(2), 60);
            c.due("a FAULT", x.text(1), -14);
            c.due("THE TAPE is empty, too", x.count(2), 0);
            c.due("it takes 8", x.feed(0, 8), 8);
        }
    }

    /** Tries all 256 bytes behind a beginning: by those of ends there is a TEXT, by those of on it may go on. */
    private static void goesOn(String begun, String ends, String on) {
        for (int b = 0; b < 256; b++) {
            boolean may = on.indexOf((char) b) >= 0;
            int want = ends.indexOf((char) b) >= 0 ? 1 : -10 - begun.length() - (may ? 1 : 0);
            c.due("\"" + begun + "\" and byte " + b, Checks.text(new FromTheMiddle(), 1, begun + (char) b), want);
        }
    }

    private static void places() {
        c.says("FAULT: the place of the first byte with which no TEXT goes on; how many there are, if it ends too early");
        goesOn("", OPERANDS, OPENING);
        goesOn("!", OPERANDS, OPENING);
        goesOn("(", NOTHING, OPERANDS + OPENING);
        goesOn("!(", NOTHING, OPERANDS + OPENING);
        for (int i = 0; i < JOINS.length(); i++) goesOn("1" + JOINS.charAt(i), OPERANDS, OPENING);
        for (int i = 0; i < COMPARING.length(); i++) goesOn("1" + COMPARING.charAt(i), OPERANDS, OPENING);
        c.says("a NUMBER of 1 to 4 digits");
        goesOn("1", DIGITS, JOINS + COMPARING);
        goesOn("999", DIGITS, JOINS + COMPARING);
        goesOn("9999", NOTHING, JOINS + COMPARING);
        goesOn("0000", NOTHING, JOINS + COMPARING);
        goesOn("1+000", DIGITS, JOINS + COMPARING);
        goesOn("1+0000", NOTHING, JOINS + COMPARING);
        c.says("a NAME");
        goesOn("h", NOTHING, JOINS + COMPARING);
        goesOn("!n", NOTHING, JOINS + COMPARING);
        goesOn("(k", ")", JOINS + COMPARING);
        c.says("( T )");
        goesOn("(1", ")", DIGITS + JOINS + COMPARING);
        goesOn("((1", NOTHING, DIGITS + JOINS + COMPARING + ")");
        goesOn("((1)", ")", JOINS + COMPARING);
        goesOn("(1)", NOTHING, JOINS + COMPARING);
        goesOn("((1))", NOTHING, JOINS + COMPARING);
        goesOn("!(1)", NOTHING, JOINS + COMPARING);
    }

    private static void comparing() {
        c.says("B: S, or S < S, S = S, S > S");
        for (int i = 0; i < 3; i++) {
            char sign = COMPARING.charAt(i);
            goesOn("h" + sign + "n", NOTHING, JOINS);
            goesOn("h" + sign + "1", DIGITS, JOINS);
            goesOn("h" + sign + "n+1*k", NOTHING, JOINS);
            goesOn("h+1" + sign + "!n", NOTHING, JOINS);
            goesOn("h" + sign + "(n)", NOTHING, JOINS);
            goesOn("h" + sign + "(n>k)", NOTHING, JOINS);
            goesOn("(h" + sign + "n", ")", JOINS);
            goesOn("h" + sign + "(n", ")", JOINS + COMPARING);
            goesOn("(h" + sign + "n)", NOTHING, JOINS + COMPARING);
            goesOn("h" + sign + "n|k", NOTHING, JOINS + COMPARING);
            goesOn("h" + sign + "n&k", NOTHING, JOINS + COMPARING);
            goesOn("h&k" + sign + "n", NOTHING, JOINS);
            goesOn("k|h" + sign + "n", NOTHING, JOINS);
            goesOn("k<h|h&k" + sign + "n", NOTHING, JOINS);
        }
    }

    private static void open() {
        c.says("At most 5 of ! and ( are open at once");
        for (int marks = 0; marks < 32; marks++) {
            StringBuilder begun = new StringBuilder();
            for (int i = 0; i < 5; i++) begun.append((marks >> i & 1) == 0 ? '(' : '!');
            openAt(begun.substring(0, 4), OPENING);
            openAt(begun.toString(), NOTHING);
        }
        // what is shut isn't open: a ! is as soon as what it stands ahead of is read
        goesOn("!!!!!h+", OPERANDS, OPENING);
        goesOn("!!!!!h+!!!!", OPERANDS, OPENING);
        goesOn("!!!!!h+!!!!!", OPERANDS, NOTHING);
        goesOn("(((((h)", NOTHING, JOINS + COMPARING + ")");
        goesOn("(((((h)+", NOTHING, OPERANDS + OPENING);
        goesOn("(((((h)+(", NOTHING, OPERANDS);
        goesOn("((((!h+", NOTHING, OPERANDS + OPENING);
        goesOn("((((!h+!", NOTHING, OPERANDS);
        goesOn("!((((h", NOTHING, JOINS + COMPARING + ")");
        goesOn("!(((!h)))+!!!!", OPERANDS, OPENING);
        goesOn("!(((!h)))+!!!!!", OPERANDS, NOTHING);
    }

    private static void openAt(String begun, String opening) {
        boolean shuts = begun.indexOf('(') < 0;
        goesOn(begun, shuts ? OPERANDS : NOTHING, shuts ? opening : OPERANDS + opening);
    }

    private static void empty() {
        c.says("how many there are, if it ends too early");
        FromTheMiddle x = new FromTheMiddle();
        c.due("an empty TAPE", x.text(0), -10);
        c.due("an empty TAPE", x.text(1), -10);
        c.due("there is no TEXT", x.untell(0) + x.untell(1), 0);
        String fifteen = "1111+2222*h-n/";
        String most = fifteen + fifteen + fifteen + fifteen + "k%";
        c.due("58 bytes, with a sign at the end", Checks.text(x, 1, most), -68);
        c.due("59 bytes", Checks.text(x, 1, most + "7"), 1);
        c.due("60 bytes", Checks.text(x, 1, most + "77"), 1);
        c.due("60 bytes, with a sign at the end", Checks.text(x, 1, most + "7-"), -70);
        c.due("60 bytes, the last one a FAULT", Checks.text(x, 1, most + "7)"), -69);
        c.due("60 bytes, the first one a FAULT", Checks.text(x, 1, ")" + most + "7"), -10);
        c.due("told() tells nothing of that", x.told(1) + x.told(2) + x.told(4) + x.told(5), 0);
    }

    private static void inPlace() {
        c.says("in place of one ahead: 1. -10 less the FAULT (no ERROR; the one ahead stays; THE TAPE is empty, too)");
        for (int use = 0; use < 2; use++) {
            FromTheMiddle x = new FromTheMiddle();
            c.due("a first", Checks.text(x, use, "17"), 1);
            c.due("law", x.law(use, 0, 0, 0), 17);
            c.due("the other USE has none", x.untell(1 - use), 0);
            c.due("another", Checks.text(x, use, "18"), 1);
            c.due("law", x.law(use, 0, 0, 0), 18);
            Checks.feed(x, "19)");
            for (int no : new int[] {-1, 2, MIN, MAX}) c.due("text(" + no + ")", x.text(no), Checks.BEYOND);
            c.due("THE TAPE stays", x.count(2), 3);
            c.due("a FAULT", x.text(use), -12);
            c.due("THE TAPE is empty", x.count(2), 0);
            c.due("the one ahead stays", x.law(use, 0, 0, 0), 18);
            c.due("untell", x.untell(use), 1);
            c.due("once more", x.untell(use), 0);
            c.due("without a TEXT", x.law(use, 9, 0, 0), use == 0 ? 3 : 9);
            c.due("a FAULT without one ahead", Checks.text(x, use, "!"), -11);
            c.due("there is still none", x.untell(use), 0);
            c.due("a TEXT of 0 is one", Checks.text(x, use, "0"), 1);
            c.due("law", x.law(use, 9, 9, 9), 0);
            c.due("untell", x.untell(use), 1);
        }
    }

    private static void anew() {
        c.says("THE TAPE, which is empty then; -10 less the FAULT (.. THE TAPE is empty, too)");
        String[] ahead = {"((((((", "(1", "(((1+", "!!!!!!", "!", "1234x", "12345", "12", "1<2<", "1<", "1|", "(h", "h&(n", ")", "!(", "(((((h)))))"};
        for (String told : ahead) {
            FromTheMiddle x = new FromTheMiddle();
            Checks.text(x, 1, told);
            c.due("behind \"" + told + "\" a ) has no (", Checks.text(x, 1, "1)"), -11);
            Checks.text(x, 1, told);
            c.due("behind \"" + told + "\" a number", Checks.text(x, 1, "34"), 1);
            c.due("is that number", x.law(1, 0, 0, 0), 34);
            Checks.text(x, 1, told);
            c.due("behind \"" + told + "\" five are open", Checks.text(x, 1, "!!(((n)))<3"), 1);
            c.due("!!n", x.law(1, 0, 7, 0), 1);
            Checks.text(x, 1, told);
            c.due("behind \"" + told + "\" nothing", x.text(1), -10);
        }
    }

    /** What a TEXT makes of h and n, told by comparing with k: what is held within 99 would not tell. */
    private static void makes(String told, int[]... cases) {
        FromTheMiddle x = new FromTheMiddle();
        c.due("text " + told, Checks.text(x, 1, told + "=k"), 1);
        for (int[] v : cases) c.due(told + " by h " + v[0] + ", n " + v[1] + " is " + v[2], x.law(1, v[0], v[1], v[2]), 1);
    }

    private static void wraps() {
        c.says("Ints that wrap");
        makes("h+n", new int[] {MAX, 1, MIN}, new int[] {MIN, -1, MAX}, new int[] {MAX, MAX, -2}, new int[] {MIN, MIN, 0}, new int[] {MAX, 0, MAX});
        makes("h-n", new int[] {MIN, 1, MAX}, new int[] {MAX, -1, MIN}, new int[] {0, MIN, MIN}, new int[] {MIN, MIN, 0}, new int[] {MIN, MAX, 1});
        makes("h*n", new int[] {MIN, -1, MIN}, new int[] {1 << 30, 2, MIN}, new int[] {65536, 65536, 0}, new int[] {MAX, MAX, 1},
            new int[] {MAX, 2, -2}, new int[] {46341, 46341, -2147479015}, new int[] {46340, 46340, 2147395600});
        c.says("/ cut, % the rest that it leaves, both by 0 are 0");
        makes("h/n", new int[] {MIN, -1, MIN}, new int[] {7, 2, 3}, new int[] {-7, 2, -3}, new int[] {7, -2, -3}, new int[] {-7, -2, 3},
            new int[] {-1, 2, 0}, new int[] {1, -2, 0}, new int[] {MIN, MIN, 1}, new int[] {MAX, MIN, 0}, new int[] {MIN, MAX, -1},
            new int[] {MIN, 1, MIN}, new int[] {MAX, -1, -MAX}, new int[] {5, 0, 0}, new int[] {0, 0, 0}, new int[] {MIN, 0, 0}, new int[] {MAX, 0, 0});
        makes("h%n", new int[] {MIN, -1, 0}, new int[] {7, 2, 1}, new int[] {-7, 2, -1}, new int[] {7, -2, 1}, new int[] {-7, -2, -1},
            new int[] {8, 2, 0}, new int[] {MIN, MAX, -1}, new int[] {MAX, MIN, MAX}, new int[] {MIN, MIN, 0}, new int[] {5, 0, 0},
            new int[] {0, 0, 0}, new int[] {MIN, 0, 0}, new int[] {-5, 0, 0}, new int[] {1, 2, 1}, new int[] {-1, 2, -1});
        makes("h/n/0", new int[] {5, 1, 0});
        makes("h/(n-n)+7", new int[] {5, 3, 7});
        makes("h%(n-n)+7", new int[] {5, 3, 7});
    }

    private static void truths(String told, int h, int n, int want) {
        FromTheMiddle x = new FromTheMiddle();
        c.due("text " + told, Checks.text(x, 1, told), 1);
        c.due(told + " by h " + h + ", n " + n, x.law(1, h, n, 0), want);
    }

    private static void truths() {
        c.says("| & < = > ! are 1 or 0, what is not 0 being true; all is worked out");
        for (int yes : new int[] {1, -1, 2, 256, 65536, MIN, MAX}) {
            truths("!h", yes, 0, 0);
            truths("!!h", yes, 0, 1);
            truths("h|n", yes, 0, 1);
            truths("h|n", 0, yes, 1);
            truths("h|n", yes, yes, 1);
            truths("h&n", yes, 0, 0);
            truths("h&n", 0, yes, 0);
            truths("h&n", yes, yes, 1);
            truths("h&n", yes, 1, 1);
            truths("h|n", yes, -yes, 1);
        }
        truths("!h", 0, 0, 1);
        truths("!!h", 0, 0, 0);
        truths("h|n", 0, 0, 0);
        truths("h&n", 0, 0, 0);
        truths("h&n", 1, 2, 1);
        int[][] ordered = {{MIN, MAX}, {MIN, 0}, {-1, 0}, {0, 1}, {MAX - 1, MAX}, {MIN, MIN + 1}};
        for (int[] o : ordered) {
            truths("h<n", o[0], o[1], 1);
            truths("h<n", o[1], o[0], 0);
            truths("h>n", o[0], o[1], 0);
            truths("h>n", o[1], o[0], 1);
            truths("h=n", o[0], o[1], 0);
        }
        for (int same : new int[] {MIN, -1, 0, 1, 128, MAX}) {
            truths("h<n", same, same, 0);
            truths("h>n", same, same, 0);
            truths("h=n", same, same, 1);
        }
        truths("1|h/n", 1, 0, 1);
        truths("0&h%n", 1, 0, 0);
    }

    private static void binding() {
        c.says("T: A { | A }. A: B { & B }. B: S, or S < S, S = S, S > S. S: P { + P, - P }. P: Q { * Q, / Q, % Q }");
        truths("9-3-2", 0, 0, 4);
        truths("9-(3-2)", 0, 0, 8);
        truths("9-3+2", 0, 0, 8);
        truths("80/4/5", 0, 0, 4);
        truths("80/(4/2)", 0, 0, 40);
        truths("7%4*5", 0, 0, 15);
        truths("7*4%5", 0, 0, 3);
        truths("7/2*2", 0, 0, 6);
        truths("2+3*4", 0, 0, 14);
        truths("2*3+4", 0, 0, 10);
        truths("20-9/3", 0, 0, 17);
        truths("20-9%5", 0, 0, 16);
        truths("(2+3)*4", 0, 0, 20);
        truths("1+1<3", 0, 0, 1);
        truths("3>1+1", 0, 0, 1);
        truths("5=2+3&1", 0, 0, 1);
        truths("0&0=0", 0, 0, 0);
        truths("1|1&0", 0, 0, 1);
        truths("0&1|1", 0, 0, 1);
        truths("0&(1|1)", 0, 0, 0);
        truths("0|0=0", 0, 0, 1);
        truths("2&2=1", 0, 0, 0);
        truths("!0+1", 0, 0, 2);
        truths("!(0+1)", 0, 0, 0);
        truths("!0*7", 0, 0, 7);
        truths("!1=0", 0, 0, 1);
        truths("!h<n", 5, 1, 1);
        truths("5+!0", 0, 0, 6);
        truths("5-!0-!0", 0, 0, 3);
        truths("0000", 0, 0, 0);
        truths("0099", 0, 0, 99);
        truths("9999/101", 0, 0, 99);
        truths("9998-9901", 0, 0, 97);
    }

    private static void held(int use, String told, int[]... cases) {
        FromTheMiddle x = new FromTheMiddle();
        if (!told.isEmpty()) c.due("text " + told, Checks.text(x, use, told), 1);
        for (int[] v : cases) c.due("law(" + use + ", " + v[0] + ", ..) by \"" + told + "\"", x.law(use, v[0], 5, 6), v[1]);
    }

    private static void held() {
        c.says("BROKEN: held within 0 .. 99");
        held(0, "c", new int[] {-1, 0}, new int[] {0, 0}, new int[] {1, 1}, new int[] {98, 98}, new int[] {99, 99}, new int[] {100, 99},
            new int[] {MIN, 0}, new int[] {MAX, 99});
        c.says("without a TEXT c by 3 (cut; held likewise)");
        held(0, "", new int[] {-4, 0}, new int[] {-3, 0}, new int[] {-2, 0}, new int[] {-1, 0}, new int[] {0, 0}, new int[] {2, 0}, new int[] {3, 1},
            new int[] {5, 1}, new int[] {6, 2}, new int[] {296, 98}, new int[] {297, 99}, new int[] {299, 99}, new int[] {300, 99},
            new int[] {MIN, 0}, new int[] {MAX, 99});
        c.says("HARM: held within -99 .. 99; without a TEXT h (held likewise)");
        for (String told : new String[] {"", "h"}) {
            held(1, told, new int[] {-100, -99}, new int[] {-99, -99}, new int[] {-98, -98}, new int[] {-1, -1}, new int[] {0, 0},
                new int[] {98, 98}, new int[] {99, 99}, new int[] {100, 99}, new int[] {MIN, -99}, new int[] {MAX, 99});
        }
        c.says("NAMES c, t, w; NAMES h, n, k");
        FromTheMiddle x = new FromTheMiddle();
        for (int i = 0; i < 3; i++) {
            c.due("a NAME of BROKEN", Checks.text(x, 0, "" + "ctw".charAt(i)), 1);
            c.due("its worth", x.law(0, 11, 12, 13), 11 + i);
            c.due("a NAME of HARM", Checks.text(x, 1, "" + "hnk".charAt(i)), 1);
            c.due("its worth", x.law(1, -11, -12, -13), -11 - i);
            c.due("none of HARM", Checks.text(x, 1, "" + "ctw".charAt(i)), -10);
            c.due("none of BROKEN", Checks.text(x, 0, "" + "hnk".charAt(i)), -10);
            c.due("no small letters", Checks.text(x, 0, "" + "CTW".charAt(i)), -10);
        }
        for (int use : new int[] {-1, 2, MIN, MAX}) c.due("law(" + use + ", ..)", x.law(use, 1, 1, 1), Checks.BEYOND);
    }

    public static void main(String[] args) {
        tape();
        tapeEnds();
        places();
        comparing();
        open();
        empty();
        inPlace();
        anew();
        wraps();
        truths();
        binding();
        held();
        c.end();
    }
}
