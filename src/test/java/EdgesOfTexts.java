/** Edges of promises 11 to 13 and of Term 2: THE TAPE, TEXTS, their USES. */
public final class EdgesOfTexts extends Edge {

    private static final int NEEDS = 0;
    private static final int LIKES = 1;

    public static void main(String[] args) {
        feed();
        tape();
        grammar();
        numbers();
        names();
        noBlanks();
        open();
        ints();
        quotients();
        truths();
        faults();
        goesOn();
        needsNames();
        likes();
        text();
        untell();
        end();
    }

    /** What a text comes to, as LIKES of a THING (WORTH 10, KIND 2, m 3); -10 less its FAULT, if it has one. */
    private static int value(String s) {
        ClawBox x = new ClawBox();
        x.lay(23, 1);
        int told = text(x, LIKES, s);
        return told == 1 ? x.thingIs(0, 7) : told;
    }

    private static void isSound(String s) {
        due(1, text(new ClawBox(), LIKES, s));
    }

    private static void hasFault(int place, String s) {
        due(-10 - place, text(new ClawBox(), LIKES, s));
    }

    private static void feed() {
        sentence("The n lowest bytes (1 .. 8) of a word, the lowest first, come to THE TAPE: how many there are.");
        for (int n : new int[] {0, 9, -1, 60, MIN, MAX}) {
            refused(BEYOND, Edge::rich, x -> x.feed(0x31L, n));
            refused(BEYOND, ClawBox::new, x -> x.feed(-1L, n));
        }
        for (int n = 1; n <= 8; n++) {
            ClawBox x = new ClawBox();
            x.lay(0, 1);
            // Digits 1, 2, 3, .. from the lowest byte on; a NUMBER ends behind 4 of them.
            due(n, x.feed(0x3837363534333231L, n));
            due(n, x.count(8));
            due(n <= 4 ? 1 : -14, x.text(LIKES));
            if (n <= 4) {
                due(new int[] {1, 12, 123, 999}[n - 1], x.thingIs(0, 7));
            }
        }
        // The bytes above the lowest n don't come.
        ClawBox x = new ClawBox();
        x.lay(0, 1);
        due(2, x.feed(0xffffffffffff3234L, 2));
        due(1, x.text(LIKES));
        due(42, x.thingIs(0, 7));
        // "1+1+1+1" and an eighth byte: a digit, or one above 127, which has no sign.
        long seven = 0x312b312b312b31L;
        due(8, x.feed(seven | 0x31L << 56, 8));
        due(1, x.text(LIKES));
        due(14, x.thingIs(0, 7));
        due(8, x.feed(seven | 0xb1L << 56, 8));
        due(-17, x.text(LIKES));
        due(7, x.feed(seven | 0xb1L << 56, 7));
        due(1, x.text(LIKES));
        due(4, x.thingIs(0, 7));

        sentence("BEYOND. FULL.");
        for (int n = 1; n <= 8; n++) {
            int most = n;
            due(60, feedTo(60 - n).feed(0, n));
            if (n > 1) {
                refused(FULL, () -> feedTo(61 - most), box -> box.feed(0, most));
            }
            refused(FULL, Edge::taped, box -> box.feed(0, most));
        }
        due(59, feedTo(58).feed('1', 1));
        refused(FULL, () -> feedTo(59), box -> box.feed('1', 2));

        sentence("Each act tells its ERRORS in the order in which they are asked");
        for (int n : new int[] {0, 9, -1, MAX}) {
            refused(BEYOND, Edge::taped, box -> box.feed(0, n));
        }
    }

    /** A box with so many bytes on THE TAPE, digits and signs. */
    private static ClawBox feedTo(int bytes) {
        ClawBox x = new ClawBox();
        x.lay(0, 1);
        x.lay(65, 2);
        feed(x, times("1+", 30).substring(0, bytes));
        return x;
    }

    private static void tape() {
        sentence("TEXTS are read from THE TAPE (bytes, at most 60)");
        // 60 bytes, each of which counts.
        due(30, value(times("1+", 29) + "01"));
        due(-69, value(times("1+", 29) + "1x"));
        due(-70, value(times("1+", 30)));
        due(0, value(times("!1+", 19) + "!!0"));
        due(9, value(times("0+", 29) + "09"));
        due(-10, value(""));
    }

    private static void grammar() {
        sentence("T: A { | A }.");
        due(0, value("0|0|0"));
        due(1, value("0|0|3"));
        sentence("A: B { & B }.");
        due(0, value("1&1&0"));
        due(1, value("1&1&3"));
        due(1, value("1|1&0"));
        due(1, value("0&1|1"));
        sentence("B: S, or S < S, S = S, S > S.");
        due(1, value("1<2&2<3"));
        due(1, value("0|2=2"));
        due(1, value("2+3>4"));
        due(0, value("5>2+3"));
        for (String sign : new String[] {"<", "=", ">"}) {
            for (String next : new String[] {"<", "=", ">"}) {
                hasFault(3, "1" + sign + "2" + next + "3");
                isSound("(1" + sign + "2)" + next + "3");
                isSound("1" + sign + "(2" + next + "3)");
                isSound("1" + sign + "2&2" + next + "3");
                isSound("1" + sign + "2|2" + next + "3");
            }
            hasFault(2, "1" + sign + sign + "2");
        }
        sentence("S: P { + P, - P }.");
        due(1, value("9-3-5"));
        due(7, value("9-3+1"));
        sentence("P: Q { * Q, / Q, % Q }.");
        due(6, value("8/4*3"));
        due(0, value("8/(4*3)"));
        due(2, value("8%3*1"));
        due(8, value("2*9%10"));
        due(14, value("2+3*4"));
        due(10, value("20-20/2"));
        sentence("Q: a NUMBER of 1 to 4 digits, a NAME, ! Q, ( T ).");
        due(20, value("(2+3)*4"));
        due(1, value("!0*1"));
        due(0, value("!(0|1)"));
        due(2, value("!0+1"));
        due(0, value("!1=1"));
    }

    private static void numbers() {
        sentence("a NUMBER of 1 to 4 digits");
        due(0, value("0"));
        due(9, value("9"));
        due(10, value("10"));
        due(99, value("99"));
        due(999, value("999"));
        due(0, value("0000"));
        due(1, value("0001"));
        due(1, value("9999/9999"));
        due(9, value("9999%10"));
        due(1, value("9999>9998"));
        due(1, value("1000=999+1"));
        hasFault(4, "00000");
        hasFault(4, "12345");
        hasFault(4, "99999+1");
        hasFault(6, "1+12345");
        hasFault(5, "(12345)");
    }

    private static void names() {
        sentence("USES: 0 NEEDS (of a TOLD one): NAMES m m, o how many THINGS lie on it, u how many under it, c CELL");
        for (int b = 0; b < 256; b++) {
            ClawBox x = new ClawBox();
            due(1, x.feed(b, 1));
            boolean sound = b >= '0' && b <= '9' || b == 'm' || b == 'o' || b == 'u' || b == 'c';
            boolean starts = b == '!' || b == '(';
            due(sound ? 1 : starts ? -11 : -10, x.text(NEEDS));
        }
        sentence("1 LIKES (what a THING is to a player): NAMES w WORTH, k KIND, m m;");
        for (int b = 0; b < 256; b++) {
            ClawBox x = new ClawBox();
            due(1, x.feed(b, 1));
            boolean sound = b >= '0' && b <= '9' || b == 'm' || b == 'w' || b == 'k';
            boolean starts = b == '!' || b == '(';
            due(sound ? 1 : starts ? -11 : -10, x.text(LIKES));
        }
        hasFault(1, "ww");
        hasFault(1, "w1");
        hasFault(1, "1w");
    }

    private static void noBlanks() {
        sentence("No blanks.");
        hasFault(0, " ");
        hasFault(0, " 1");
        hasFault(1, "1 ");
        hasFault(1, "1 +1");
        hasFault(2, "1+ 1");
        hasFault(1, "( 1)");
        hasFault(2, "(1 )");
        hasFault(1, "! 1");
        hasFault(1, "1\n");
        hasFault(1, "1\0");
        hasFault(1, "1\t");
    }

    private static void open() {
        sentence("At most 5 of ! and ( are open at once.");
        for (int brackets = 0; brackets <= 5; brackets++) {
            int not = 5 - brackets;
            isSound(times("!", not) + times("(", brackets) + "1" + times(")", brackets));
            isSound(times("(", brackets) + times("!", not) + "1" + times(")", brackets));
            hasFault(5, times("!", not) + times("(", brackets) + "!1" + times(")", brackets));
            hasFault(5, times("!", not) + times("(", brackets) + "(1)" + times(")", brackets));
            hasFault(5, times("(", brackets) + times("!", not) + "(1)" + times(")", brackets));
            hasFault(5, times("(", brackets) + times("!", not) + "!");
        }
        due(42, value("(((((42)))))"));
        due(0, value("!!!!!7"));
        // What is closed isn't open any more: ! ends with its Q, ( with its ).
        isSound("!!!!!1+!!!!!1");
        isSound("!!!!!1|(((((1)))))");
        isSound("(((((1)))))&!!!!!1");
        isSound("((((!1+!1*(1)))))");
        isSound("(!!!!1+!1)");
        isSound("!(!!!1+!(1))");
        isSound("(((((1))))*((((1)))))");
        hasFault(5, "(!!!!!1)");
        hasFault(9, "((((1)+(((1");
        hasFault(10, "((((!1)+((!1");
    }

    private static void ints() {
        sentence("Ints that wrap;");
        String least = "256*256*256*128";
        due(-999, value(least));
        due(999, value(least + "-1"));
        due(-999, value(least + "-1+1"));
        due(1, value(least + "<0"));
        due(1, value(least + "-1>0"));
        due(1, value("0-" + least + "<0"));
        due(0, value(least + "*2"));
        due(0, value("256*256*256*256"));
        due(1, value("256*256*256*256+1"));
        // 9999 to the third is 999700029999, which wraps to -1027349969; and 99 times 9999 squared to 1308085507.
        due(-969, value("9999*9999*9999%1000"));
        due(507, value("9999*9999*99%1000"));
    }

    private static void quotients() {
        sentence("Quotients are cut toward 0.");
        for (int above = -9; above <= 9; above++) {
            for (int below = -9; below <= 9; below++) {
                String by = "(" + (above + 9) + "-9)/(" + (below + 9) + "-9)";
                due(below == 0 ? 0 : above / below, value(by));
            }
        }
        sentence("/ cut, % the rest that it leaves, both by 0 are 0;");
        due(3, value("7/2"));
        due(-3, value("(0-7)/2"));
        due(-3, value("7/(0-2)"));
        due(3, value("(0-7)/(0-2)"));
        due(1, value("7%2"));
        due(-1, value("(0-7)%2"));
        due(1, value("7%(0-2)"));
        due(-1, value("(0-7)%(0-2)"));
        due(0, value("1/2"));
        due(0, value("(0-1)/2"));
        due(0, value("7/0"));
        due(0, value("7%0"));
        due(0, value("0/0"));
        due(0, value("0%0"));
        due(0, value("(0-7)/0"));
        due(5, value("5+7/(3-m)"));
        due(5, value("5+7%(3-m)"));
        due(-999, value("256*256*256*128/(0-1)"));
        due(0, value("256*256*256*128%(0-1)"));
        due(0, value("256*256*256*128/0"));
        due(1, value("256*256*256*128/(256*256*256*128)"));
        due(0, value("7%1"));
        due(0, value("7%7"));
        due(7, value("7%8"));
    }

    private static void truths() {
        sentence("| & < = > ! are 1 or 0, what is not 0 being true; all is worked out.");
        String[] of = {"0", "1", "7", "(0-1)"};
        for (String one : of) {
            boolean is = !one.equals("0");
            due(is ? 0 : 1, value("!" + one));
            due(is ? 1 : 0, value("!!" + one));
            for (String other : of) {
                boolean isOther = !other.equals("0");
                due(is || isOther ? 1 : 0, value(one + "|" + other));
                due(is && isOther ? 1 : 0, value(one + "&" + other));
                due(one.equals(other) ? 1 : 0, value(one + "=" + other));
            }
        }
        int[] less = {1, 0, 0};
        for (int i = 0; i < 3; i++) {
            due(less[i], value(4 + i + "<5"));
            due(less[2 - i], value(4 + i + ">5"));
            due(i == 1 ? 1 : 0, value(4 + i + "=5"));
        }
        due(1, value("0-1<0"));
        due(0, value("0-1>0"));
        // Behind what is settled a quotient by 0 is worked out, too, and harms nothing.
        due(1, value("1|1/0"));
        due(0, value("0&1%0"));
        due(256, value("256*(256*256*256*127<256*256*256*127+1)"));
    }

    private static void faults() {
        sentence("FAULT: the place of the first byte with which no TEXT goes on; how many there are, if it ends too early.");
        hasFault(0, "");
        hasFault(1, "(");
        hasFault(1, "!");
        hasFault(2, "1+");
        hasFault(2, "(1");
        hasFault(4, "(1+2");
        hasFault(5, "(1+2)(");
        hasFault(6, "(1+2)*");
        hasFault(0, ")");
        hasFault(1, "1)");
        hasFault(3, "(1))");
        hasFault(1, "()");
        hasFault(3, "1+()");
        hasFault(0, "+1");
        hasFault(0, "-1");
        hasFault(0, "*");
        hasFault(2, "1||1");
        hasFault(2, "1&&1");
        hasFault(1, "1!");
        hasFault(1, "1(");
        hasFault(1, "1,1");
        hasFault(1, "1^1");
        hasFault(1, "1~");
        hasFault(0, "W");
        hasFault(0, "M");
        hasFault(4, "(1<2<3)");
        hasFault(0, "" + (char) 255);
        hasFault(1, "1" + (char) ('+' + 128));
        // The first of several.
        hasFault(1, "1 )((");
        for (int place = 0; place < 60; place++) {
            hasFault(place, (times("1+", 30).substring(0, place) + "?" + times("1+", 30)).substring(0, 60));
            hasFault(place, times("1+", 30).substring(0, place) + ")");
        }
        hasFault(60, times("1+", 30));
        hasFault(60, times("(", 5) + times("1+", 27) + "1");
    }

    /** Whatever begins as a TEXT begins goes on: it is one, or it ends too early; a sign that fits nowhere is its FAULT. */
    private static void goesOn() {
        sentence("how many there are, if it ends too early.");
        String[] sound = {"(1+w)*!m<9|k=2&0", "!(w/3%k-12)>4*(m)", "((w|1)&(k<2))=!!1234", "1|2&3<4+5*6", "!((w)-(((1))))"};
        for (String s : sound) {
            isSound(s);
            for (int length = 0; length < s.length(); length++) {
                String begun = s.substring(0, length);
                int told = text(new ClawBox(), LIKES, begun);
                boolean open = begun.chars().filter(b -> b == '(').count() > begun.chars().filter(b -> b == ')').count();
                boolean mayEnd = length > 0 && "0123456789wkm)".indexOf(begun.charAt(length - 1)) >= 0 && !open;
                due(mayEnd ? 1 : -10 - length, told);
                hasFault(length, begun + "$");
                hasFault(length, begun + "$" + s);
            }
        }
    }

    private static void needsNames() {
        sentence("(in no CELL: o, u 0, c as thingIs() tells)");
        for (int under = 0; under <= 4; under++) {
            ClawBox x = new ClawBox();
            for (int i = 0; i < 5; i++) {
                x.lay(i == under ? 60 : 0, 15);
            }
            text(x, NEEDS, "10*o+u+40");
            due(10 * (4 - under) + under + 40, x.thingIs(under, 6));
            x.out(under);
            due(40, x.thingIs(under, 6));
            text(x, NEEDS, "40-10*u-o");
            due(40, x.thingIs(under, 6));
            x.back(under, 15);
            due(1, x.thingIs(under, 6));
            x.spring(0, 99);
            due(under, x.pull(15));
            due(40, x.thingIs(under, 6));
        }
        ClawBox x = new ClawBox();
        text(x, NEEDS, "c+5");
        for (int cell = 1; cell < 16; cell++) {
            due(cell - 1, x.lay(60, cell));
            due(cell + 5, x.thingIs(cell - 1, 6));
        }
        x.out(3);
        due(3, x.thingIs(3, 6));
        due(4, x.pull(5));
        due(4, x.thingIs(4, 6));
        text(x, NEEDS, "0-c");
        due(2, x.thingIs(3, 6));
        due(1, x.thingIs(4, 6));
        for (int m = 0; m <= 9; m++) {
            x.set(0, 1, m);
            text(x, NEEDS, "m*10+1");
            due(10 * m + 1, x.thingIs(0, 6));
        }
        sentence("without a TEXT as THING.");
        due(1, x.untell(NEEDS));
        due(29, x.thingIs(0, 6));
        due(20, x.thingIs(3, 6));
        due(20, x.thingIs(4, 6));
    }

    private static void likes() {
        sentence("held within -999 .. 999; without a TEXT w.");
        due(998, value("998"));
        due(999, value("999"));
        due(999, value("1000"));
        due(999, value("9999*9999"));
        due(-998, value("0-998"));
        due(-999, value("0-999"));
        due(-999, value("0-1000"));
        due(-999, value("0-9999*9999"));
        due(0, value("0"));
        ClawBox x = new ClawBox();
        for (int kind = 0; kind < 7; kind++) {
            x.lay(10 * kind + 9 - kind, 1 + kind);
        }
        x.out(0);
        x.pull(4);
        x.set(0, 2, 0);
        x.set(2, 2, 99);
        due(0, x.thingIs(0, 7));
        due(99, x.thingIs(2, 7));
        due(10, x.thingIs(3, 7));
        due(1, text(x, LIKES, "k*100+m"));
        for (int kind = 0; kind < 7; kind++) {
            due(100 * kind + 9 - kind, x.thingIs(kind, 7));
        }
        due(1, text(x, LIKES, "w-100"));
        due(-100, x.thingIs(0, 7));
        due(-1, x.thingIs(2, 7));
        due(1, x.untell(LIKES));
        due(0, x.thingIs(0, 7));
        due(99, x.thingIs(2, 7));
    }

    private static void text() {
        sentence("THE TAPE, which is empty then, is the TEXT of a USE (0, 1), in place of one ahead: 1. BEYOND (THE TAPE stays).");
        for (int use : new int[] {-1, 2, MIN, MAX}) {
            refused(BEYOND, Edge::rich, x -> x.text(use));
            refused(BEYOND, Edge::taped, x -> x.text(use));
            refused(BEYOND, ClawBox::new, x -> x.text(use));
            refused(BEYOND, () -> fed("1+"), x -> x.text(use));
        }
        ClawBox x = rich();
        due(1, x.text(NEEDS));
        due(0, x.count(8));
        due(8, x.thingIs(0, 6));
        due(15, x.thingIs(0, 7));
        due(1, text(x, NEEDS, "31"));
        due(31, x.thingIs(0, 6));
        due(1, text(x, LIKES, "m"));
        due(1, x.thingIs(0, 7));
        due(31, x.thingIs(0, 6));

        // However many were told ahead, sound ones and others, the last one counts, whole.
        x = new ClawBox();
        x.lay(0, 1);
        for (int i = 0; i < 10; i++) {
            due(1, text(x, i % 2, times("1+", 29) + "1" + i));
            due(-70, text(x, i % 2, times("1+", 30)));
        }
        due(29 + 19, x.thingIs(0, 7));
        x.set(0, 0, 6);
        due(29 + 18, x.thingIs(0, 6));

        sentence("-10 less the FAULT (no ERROR; the one ahead stays; THE TAPE is empty, too).");
        for (int use = 0; use < 2; use++) {
            int asked = use;
            String[] faulty = {"?", "+1?", "+", "+1+1+1+"};
            int[] places = {3, 5, 4, 10};
            for (int i = 0; i < faulty.length; i++) {
                String s = faulty[i];
                due(-10 - places[i], text(rich(), use, s));
                alike(() -> emptied(Edge.rich()), () -> {
                    ClawBox box = rich();
                    text(box, asked, s);
                    return box;
                }, 0);
            }
            due(-10, new ClawBox().text(use));
            alike(ClawBox::new, after(ClawBox::new, box -> box.text(asked)), 0);
            alike(() -> emptied(rich()), () -> {
                ClawBox box = emptied(rich());
                box.text(asked);
                return box;
            }, 0);
        }
    }

    private static ClawBox fed(String s) {
        ClawBox x = new ClawBox();
        feed(x, s);
        return x;
    }

    /** The same box with its own TEXT for LIKES told again, so that THE TAPE is empty. */
    private static ClawBox emptied(ClawBox x) {
        x.text(LIKES);
        text(x, LIKES, "w*2-k+m");
        return x;
    }

    private static void untell() {
        sentence("There is no TEXT of a USE any more: 1 if there was, else 0. BEYOND.");
        for (int use : new int[] {-1, 2, MIN, MAX}) {
            refused(BEYOND, Edge::rich, x -> x.untell(use));
            refused(BEYOND, ClawBox::new, x -> x.untell(use));
        }
        ClawBox x = rich();
        due(1, x.untell(NEEDS));
        due(21, x.thingIs(0, 6));
        due(15, x.thingIs(0, 7));
        due(0, x.untell(NEEDS));
        due(1, x.untell(LIKES));
        due(10, x.thingIs(0, 7));
        due(0, x.untell(LIKES));
        due(0, x.untell(NEEDS));
        due(3, x.count(8));
        looks(ClawBox::new, box -> box.untell(NEEDS));
        looks(ClawBox::new, box -> box.untell(LIKES));
    }
}
