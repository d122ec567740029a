/** For each promise its ordinary answers, its edges and its ERRORS, worked out by hand from the document. */
public final class PromiseTests {

    private static final int LOW = -1000000000;
    private static final int BEYOND = LOW - 1;
    private static final int NONE = LOW - 2;
    private static final int STATE = LOW - 3;
    private static final int FULL = LOW - 4;
    private static final int KIND = LOW - 5;
    private static final int PARTED = LOW - 6;
    private static final int MIN = Integer.MIN_VALUE;
    private static final int MAX = Integer.MAX_VALUE;

    private static int asked = 0;
    private static int wrong = 0;
    private static String promise = "";

    private static void due(long want, long got) {
        asked++;
        if (want != got) {
            wrong++;
            StackTraceElement at = Thread.currentThread().getStackTrace()[2];
            System.out.println(promise + ", line " + at.getLineNumber() + ": " + got + ", due is " + want);
        }
    }

    /** Feeds a text to THE TAPE in words of at most 8 bytes. */
    private static void feed(ClawBox x, String s) {
        for (int from = 0; from < s.length(); from += 8) {
            int n = Math.min(8, s.length() - from);
            long word = 0;
            for (int i = n - 1; i >= 0; i--) {
                word = word << 8 | s.charAt(from + i);
            }
            x.feed(word, n);
        }
    }

    private static int text(ClawBox x, int use, String s) {
        feed(x, s);
        return x.text(use);
    }

    /** What a text comes to, as LIKES of a THING (WORTH 10, KIND 2, m 3). */
    private static int value(String s) {
        ClawBox x = new ClawBox();
        x.lay(23, 1);
        int told = text(x, 1, s);
        return told == 1 ? x.thingIs(0, 7) : told;
    }

    private static void row(ClawBox x, int sheet, int... numbers) {
        x.sheet(sheet, 32, numbers.length);
        for (int i = 0; i < numbers.length; i++) {
            x.put(sheet, i, numbers[i]);
        }
    }

    public static void main(String[] args) {
        things();
        spring();
        texts();
        pulls();
        wouldBe();
        voices();
        sheets();
        imagesAndTold();
        System.out.println((asked - wrong) + " answers as due, " + wrong + " not");
        if (wrong != 0) {
            System.exit(1);
        }
    }

    private static void things() {
        newObject();
        lay();
        thingIs();
        as();
        set();
        out();
        back();
    }

    private static void newObject() {
        promise = "promise 1";
        ClawBox x = new ClawBox();
        int[] first = {0, 0, 0, 60, 60, 1, 0, 0, 0, 0, 0, 1};
        for (int what = 0; what < first.length; what++) {
            due(first[what], x.count(what));
        }
        for (int cell = 0; cell < 16; cell++) {
            due(0, x.cellIs(cell, 0));
            due(-1, x.cellIs(cell, 1));
            due(-1, x.cellIs(cell, 2));
            due(0, x.cellIs(cell, 3));
        }
        for (int sheet = 0; sheet < 4; sheet++) {
            due(NONE, x.haul(sheet));
        }
        due(NONE, x.restore());
        due(NONE, x.body(0));
        due(0, x.untell(0));
        due(0, x.untell(1));
        due(0, x.told(1));
        due(6, x.told(2));
        for (int k = 3; k <= 6; k++) {
            due(0, x.told(k));
        }
    }

    private static void lay() {
        promise = "promise 2";
        ClawBox x = new ClawBox();
        due(BEYOND, x.lay(-1, 1));
        due(BEYOND, x.lay(70, 1));
        due(BEYOND, x.lay(MIN, 1));
        due(BEYOND, x.lay(MAX, 1));
        due(BEYOND, x.lay(0, 0));
        due(BEYOND, x.lay(0, -1));
        due(BEYOND, x.lay(0, 16));
        due(0, x.count(0));
        due(0, x.lay(0, 1));
        due(1, x.lay(69, 15));
        for (int i = 0; i < 4; i++) {
            due(2 + i, x.lay(31, 1));
        }
        due(FULL, x.lay(31, 1));
        due(BEYOND, x.lay(70, 1));
        due(5, x.cellIs(1, 0));
        due(5, x.cellIs(1, 1));
        due(0, x.cellIs(1, 2));
        due(6, x.thingIs(1, 0));
        due(9, x.thingIs(1, 1));
        due(3, x.thingIs(5, 0));
        due(1, x.thingIs(5, 1));
        for (int i = 6; i < 16; i++) {
            due(i, x.lay(0, 2 + i % 5));
        }
        due(FULL, x.lay(0, 9));
        due(BEYOND, x.lay(0, 0));
        due(16, x.count(0));
        x.out(3);
        due(FULL, x.lay(0, 9));
    }

    private static void thingIs() {
        promise = "promise 3";
        ClawBox x = new ClawBox();
        int[] kms = {4, 14, 24, 34, 44, 54, 64};
        int[] needs = {24, 34, 16, 48, 38, 16, 24};
        for (int i = 0; i < 7; i++) {
            x.lay(kms[i], 1 + i);
            due(i, x.thingIs(i, 0));
            due(4, x.thingIs(i, 1));
            due(10, x.thingIs(i, 2));
            due(1 + i, x.thingIs(i, 3));
            due(0, x.thingIs(i, 4));
            due(0, x.thingIs(i, 5));
            due(needs[i], x.thingIs(i, 6));
            due(10, x.thingIs(i, 7));
        }
        x.lay(0, 6);
        x.lay(0, 6);
        due(20, x.thingIs(5, 6));
        due(0, x.thingIs(5, 4));
        due(2, x.thingIs(5, 5));
        due(1, x.thingIs(7, 4));
        due(1, x.thingIs(7, 5));
        due(2, x.thingIs(8, 4));
        due(0, x.thingIs(8, 5));
        x.out(5);
        due(-2, x.thingIs(5, 3));
        due(-1, x.thingIs(5, 4));
        due(-1, x.thingIs(5, 5));
        due(16, x.thingIs(5, 6));
        due(0, x.thingIs(7, 4));
        due(1, x.thingIs(8, 4));
        due(0, x.pull(1));
        due(-1, x.thingIs(0, 3));
        due(-1, x.thingIs(0, 4));
        due(-1, x.thingIs(0, 5));
        due(24, x.thingIs(0, 6));
        due(10, x.thingIs(0, 7));
        due(BEYOND, x.thingIs(9, 0));
        due(BEYOND, x.thingIs(-1, 0));
        due(BEYOND, x.thingIs(MIN, 0));
        due(BEYOND, x.thingIs(0, 8));
        due(BEYOND, x.thingIs(0, -1));
    }

    private static void as() {
        promise = "promise 4";
        // Each row tells as which KINDS (its bits) a THING of that KIND can stand.
        int[] stands = {0b1, 0b11, 0b101, 0b1001, 0b10011, 0b100101, 0b1000001};
        ClawBox x = new ClawBox();
        for (int kind = 0; kind < 7; kind++) {
            x.lay(10 * kind, 1 + kind);
            x.set(kind, 2, 20 + kind);
            for (int as = 0; as < 7; as++) {
                due((stands[kind] >> as & 1) != 0 ? 20 + kind : KIND, x.as(kind, as));
            }
        }
        due(BEYOND, x.as(7, 0));
        due(BEYOND, x.as(-1, 0));
        due(BEYOND, x.as(0, 7));
        due(BEYOND, x.as(0, -1));
        due(34, x.told(5));
    }

    private static void set() {
        promise = "promise 5";
        ClawBox x = new ClawBox();
        x.lay(23, 1);
        due(2, x.set(0, 0, 6));
        due(6, x.set(0, 0, 0));
        due(3, x.set(0, 1, 9));
        due(9, x.set(0, 1, 0));
        due(10, x.set(0, 2, 99));
        due(99, x.set(0, 2, 0));
        due(0, x.thingIs(0, 0));
        due(0, x.thingIs(0, 1));
        due(0, x.thingIs(0, 2));
        due(BEYOND, x.set(0, 0, 7));
        due(BEYOND, x.set(0, 0, -1));
        due(BEYOND, x.set(0, 1, 10));
        due(BEYOND, x.set(0, 1, -1));
        due(BEYOND, x.set(0, 2, 100));
        due(BEYOND, x.set(0, 2, -1));
        due(BEYOND, x.set(0, 3, 0));
        due(BEYOND, x.set(0, -1, 0));
        due(BEYOND, x.set(1, 0, 0));
        due(BEYOND, x.set(-1, 0, 0));
        due(0, x.thingIs(0, 0));
        x.out(0);
        due(0, x.set(0, 2, 7));
        due(7, x.thingIs(0, 2));
    }

    private static void out() {
        promise = "promise 6";
        ClawBox x = new ClawBox();
        for (int i = 0; i < 5; i++) {
            x.lay(0, 7);
        }
        due(7, x.out(1));
        due(STATE, x.out(1));
        int[] left = {0, 2, 3, 4};
        for (int i = 0; i < 4; i++) {
            due(i, x.thingIs(left[i], 4));
            due(3 - i, x.thingIs(left[i], 5));
        }
        due(4, x.cellIs(7, 0));
        due(7, x.out(0));
        due(7, x.out(4));
        due(2, x.cellIs(7, 2));
        due(3, x.cellIs(7, 1));
        due(3, x.pull(7));
        due(STATE, x.out(3));
        due(-1, x.thingIs(3, 3));
        due(BEYOND, x.out(5));
        due(BEYOND, x.out(-1));
    }

    private static void back() {
        promise = "promise 7";
        ClawBox x = new ClawBox();
        for (int i = 0; i < 5; i++) {
            x.lay(0, 7);
        }
        x.lay(0, 3);
        x.out(5);
        due(BEYOND, x.back(5, 0));
        due(BEYOND, x.back(5, 16));
        due(BEYOND, x.back(5, -1));
        due(BEYOND, x.back(6, 1));
        due(BEYOND, x.back(-1, 1));
        due(FULL, x.back(5, 7));
        due(-2, x.thingIs(5, 3));
        due(STATE, x.back(4, 7));
        due(STATE, x.back(4, 1));
        due(4, x.pull(7));
        due(1, x.count(6));
        due(5, x.back(5, 7));
        due(1, x.back(4, 8));
        due(0, x.count(6));
        due(8, x.thingIs(4, 3));
        due(4, x.thingIs(5, 4));
        due(7, x.out(2));
        due(2, x.back(2, 8));
        due(1, x.thingIs(2, 4));
    }

    private static void spring() {
        promise = "promise 8";
        ClawBox x = new ClawBox();
        due(60, x.spring(0, 99));
        due(99, x.spring(0, 0));
        due(1, x.spring(1, 9));
        due(9, x.spring(1, 0));
        due(BEYOND, x.spring(0, 100));
        due(BEYOND, x.spring(0, -1));
        due(BEYOND, x.spring(1, 10));
        due(BEYOND, x.spring(1, -1));
        due(BEYOND, x.spring(2, 1));
        due(BEYOND, x.spring(-1, 1));
        due(0, x.count(4));
        due(0, x.count(5));
        due(5, x.told(1) - 1);

        promise = "promise 9";
        x = new ClawBox();
        due(0, x.wind());
        x.spring(1, 9);
        for (int i = 0; i < 7; i++) {
            x.pull(1);
        }
        due(0, x.count(3));
        due(7, x.wind());
        due(60, x.count(3));
        due(0, x.wind());
        due(7, x.count(1));
        for (int i = 0; i < 170; i++) {
            x.draws(60);
        }
        due(10207, x.count(1));
        due(9999, x.count(2));
        due(9999, x.wind());

        cellIs();
    }

    private static void cellIs() {
        promise = "promise 10";
        ClawBox x = new ClawBox();
        x.lay(0, 5);
        x.lay(30, 5);
        due(2, x.cellIs(5, 0));
        due(1, x.cellIs(5, 1));
        due(0, x.cellIs(5, 2));
        due(2, x.cellIs(5, 3));
        x.spring(0, 40);
        due(2, x.cellIs(5, 3));
        x.spring(0, 39);
        due(1, x.cellIs(5, 3));
        x.spring(0, 20);
        due(1, x.cellIs(5, 3));
        x.spring(0, 19);
        due(0, x.cellIs(5, 3));
        x.spring(0, 20);
        for (int i = 0; i < 5; i++) {
            x.lay(0, 4);
        }
        due(3, x.cellIs(5, 3));
        due(2, x.cellIs(4, 3));
        x.spring(0, 10);
        due(2, x.cellIs(4, 3));
        x.spring(0, 9);
        due(0, x.cellIs(4, 3));
        due(0, x.cellIs(1, 3));
        due(0, x.count(2));
        due(BEYOND, x.cellIs(16, 0));
        due(BEYOND, x.cellIs(-1, 0));
        due(BEYOND, x.cellIs(0, 4));
        due(BEYOND, x.cellIs(0, -1));
        due(-1, x.cellIs(0, 2));
    }

    private static void texts() {
        feeds();
        readings();
        faults();
        uses();
    }

    private static void feeds() {
        promise = "promise 11";
        ClawBox x = new ClawBox();
        due(BEYOND, x.feed(0, 0));
        due(BEYOND, x.feed(0, 9));
        due(BEYOND, x.feed(0, -1));
        due(8, x.feed(-1L, 8));
        due(-10, x.text(0));
        due(0, x.count(8));
        due(2, x.feed('4' | '2' << 8 | 'x' << 16, 2));
        due(1, x.text(1));
        x.lay(0, 1);
        due(42, x.thingIs(0, 7));
        due(8, x.feed(0x3837363534333231L, 8));
        due(-14, x.text(1));
        for (int i = 1; i <= 7; i++) {
            due(8 * i, x.feed(0, 8));
        }
        due(FULL, x.feed(0, 5));
        due(BEYOND, x.feed(0, 9));
        due(56, x.count(8));
        due(60, x.feed(0, 4));
        due(FULL, x.feed(0, 1));
        due(60, x.count(8));
    }

    private static void readings() {
        promise = "promise 12, values";
        due(7, value("1+2*3"));
        due(9, value("(1+2)*3"));
        due(-4, value("1-2-3"));
        due(2, value("20/5/2"));
        due(3, value("17%7"));
        due(-3, value("(0-7)/2"));
        due(-1, value("(0-7)%2"));
        due(0, value("5/0"));
        due(0, value("5%0"));
        due(1, value("2|0"));
        due(0, value("0|0"));
        due(0, value("2&0"));
        due(1, value("2&4"));
        due(1, value("1|0&0"));
        due(0, value("(1|0)&0"));
        due(1, value("1<2"));
        due(0, value("2<2"));
        due(1, value("2=2"));
        due(0, value("2=3"));
        due(1, value("3>2"));
        due(0, value("2>2"));
        due(1, value("1+1=2&3>2"));
        due(1, value("(2>1)>0"));
        due(0, value("!5"));
        due(1, value("!0"));
        due(1, value("!!7"));
        due(3, value("!0+2"));
        due(0, value("!(0+2)"));
        due(10, value("w"));
        due(2, value("k"));
        due(3, value("m"));
        due(213, value("w*(k*w)+w+m"));
        due(999, value("999+1"));
        due(999, value("9999"));
        due(-999, value("0-9999"));
        due(-999, value("0-999"));
        due(7, value("0007"));
        // 2^16 * 2^15 wraps to the least int, and that by -1 stays so.
        due(-999, value("256*256*256*128"));
        due(-999, value("256*256*256*128/(0-1)"));
        due(0, value("256*256*256*128%(0-1)"));
        due(0, value("256*256*256*256"));
        due(42, value("((((42))))"));
        due(42, value("(((((42)))))"));
        due(0, value("!!!!!1"));
        due(0, value("!(!(!1))"));
        due(3, value("!0+!0+!0+!1+!1+!1"));
        due(2, value("(1)+(1)+(0)+(0)+(0)+(0)"));
    }

    private static void faults() {
        promise = "promise 12, faults";
        due(-10, value(""));
        due(-11, value("1 "));
        due(-10, value(" 1"));
        due(-12, value("1+"));
        due(-12, value("1++1"));
        due(-10, value("+1"));
        due(-10, value("-1"));
        due(-14, value("12345"));
        due(-14, value("0000w"));
        due(-11, value("1w"));
        due(-11, value("w1"));
        due(-11, value("ww"));
        due(-10, value("o"));
        due(-10, value("c"));
        due(-13, value("1<2<3"));
        due(-13, value("1<2=3"));
        due(-13, value("1=2>3"));
        due(-14, value("(1<2<3)"));
        due(-10, value(")"));
        due(-11, value("1)"));
        due(-12, value("(1"));
        due(-11, value("("));
        due(-11, value("()"));
        due(-11, value("!"));
        due(-11, value("1!"));
        due(-11, value("1("));
        due(-15, value("((((((1))))))"));
        due(-15, value("!!!!!!1"));
        due(-15, value("!(!(!(1)))"));
        due(-15, value("(((((!1)))))"));
        due(-16, value("(((((1"));
        due(-12, value("1||2"));
        due(-12, value("1&"));
        due(-11, value("1,2"));
        due(-10, value("W"));
        due(-70, value("1+1+1+1+1+1+1+1+1+1+1+1+1+1+1+1+1+1+1+1+1+1+1+1+1+1+1+1+1+1+"));
        due(30, value("1+1+1+1+1+1+1+1+1+1+1+1+1+1+1+1+1+1+1+1+1+1+1+1+1+1+1+1+1+01"));
    }

    private static void uses() {
        promise = "promise 12, uses";
        ClawBox x = new ClawBox();
        x.lay(65, 5);
        x.lay(0, 5);
        x.lay(62, 5);
        due(1, text(x, 0, "m*10+o+u*2+c"));
        due(57, x.thingIs(0, 6));
        due(29, x.thingIs(2, 6));
        due(20, x.thingIs(1, 6));
        x.out(0);
        due(48, x.thingIs(0, 6));
        due(-11, text(x, 0, "1x"));
        due(48, x.thingIs(0, 6));
        due(0, x.count(8));
        due(1, text(x, 0, "1000"));
        due(99, x.thingIs(0, 6));
        due(1, text(x, 0, "0-1"));
        due(1, x.thingIs(0, 6));
        due(1, text(x, 0, "c+50"));
        due(48, x.thingIs(0, 6));
        x.set(2, 0, 0);
        x.pull(5);
        x.set(2, 0, 6);
        due(49, x.thingIs(2, 6));
        feed(x, "w");
        due(BEYOND, x.text(2));
        due(BEYOND, x.text(-1));
        due(1, x.count(8));
        due(1, x.text(1));
        due(-10, text(x, 0, "w"));

        promise = "promise 13";
        due(BEYOND, x.untell(2));
        due(BEYOND, x.untell(-1));
        due(1, x.untell(0));
        due(0, x.untell(0));
        due(25, x.thingIs(0, 6));
        due(1, text(x, 1, "m-w"));
        due(-5, x.thingIs(0, 7));
        due(1, x.untell(1));
        due(0, x.untell(1));
        due(10, x.thingIs(0, 7));
    }

    private static void pulls() {
        promise = "promise 14";
        ClawBox x = new ClawBox();
        due(BEYOND, x.pull(0));
        due(BEYOND, x.pull(-1));
        due(BEYOND, x.pull(16));
        due(0, x.count(1));
        due(-1, x.pull(15));
        due(1, x.count(1));
        due(1, x.count(2));
        x.wind();
        x.spring(1, 0);
        x.lay(5, 15);
        x.spring(0, 24);
        // It comes down to THE CHUTE along the row, then along the column.
        int[] way = {14, 13, 12, 8, 4};
        int at = 15;
        for (int next : way) {
            due(-1, x.pull(at));
            due(next, x.thingIs(0, 3));
            at = next;
        }
        due(0, x.pull(4));
        due(-1, x.thingIs(0, 3));
        due(7, x.count(1));
        due(6, x.count(2));
        x.back(0, 9);
        x.spring(0, 25);
        due(0, x.pull(9));
        x.back(0, 9);
        x.spring(0, 12);
        due(-1, x.pull(9));
        due(9, x.thingIs(0, 3));
        x.spring(0, 13);
        due(-1, x.pull(9));
        due(8, x.thingIs(0, 3));
        for (int i = 0; i < 5; i++) {
            x.lay(0, 4);
        }
        due(-1, x.pull(8));
        due(8, x.thingIs(0, 3));
        due(5, x.cellIs(4, 0));
        due(5, x.pull(4));
        due(-1, x.pull(8));
        due(4, x.thingIs(0, 3));
        due(4, x.thingIs(0, 4));
        x.spring(1, 1);
        x.wind();
        due(0, x.pull(4));
        due(12, x.count(3));
        due(4, x.pull(4));
        due(11, x.count(3));

        rowsOfPulls();
        draws();
    }

    private static void rowsOfPulls() {
        promise = "promise 15";
        ClawBox x = new ClawBox();
        x.lay(0, 1);
        x.lay(0, 2);
        x.lay(0, 3);
        row(x, 0, 1, 2, 16, 3);
        due(2, x.pulls(0));
        due(2, x.count(1));
        due(2, x.count(6));
        row(x, 1, 0, 3);
        due(0, x.pulls(1));
        row(x, 2, 3, 3, 3, -1);
        due(3, x.pulls(2));
        due(3, x.count(6));
        due(5, x.count(2));
        row(x, 2);
        due(0, x.pulls(2));
        due(NONE, x.pulls(3));
        due(BEYOND, x.pulls(4));
        due(BEYOND, x.pulls(-1));
        due(1, x.told(2));
    }

    private static void draws() {
        promise = "promise 16";
        ClawBox x = new ClawBox();
        due(BEYOND, x.draws(0));
        due(BEYOND, x.draws(61));
        due(BEYOND, x.draws(-1));
        int z = 1;
        int[] cells = new int[16];
        for (int i = 0; i < 8; i++) {
            z = z * 1103515245 + 12345;
            cells[1 + (z >>> 8) % 15]++;
        }
        for (int cell = 1; cell < 16; cell++) {
            x.lay(0, cell);
        }
        int hit = 0;
        for (int cell = 1; cell < 16; cell++) {
            hit += cells[cell] > 0 ? 1 : 0;
        }
        due(hit, x.draws(8));
        for (int cell = 1; cell < 16; cell++) {
            due(cells[cell] > 0 ? -1 : cell, x.thingIs(cell - 1, 3));
        }
        due(z, x.count(11));
        due(8, x.count(1));
        due(0, x.draws(60) - (15 - hit - stillThere(x)));

        promise = "promise 17";
        x = new ClawBox();
        due(1, x.seed(-5));
        due(-5, x.seed(MIN));
        due(MIN, x.count(11));
        due(MIN, x.seed(LOW - 1));
        due(LOW - 1, x.seed(0));
        due(0, x.told(1));
        x.draws(1);
        due(12345, x.count(11));
        // 12345 >>> 8 is 48, and 48 % 15 is 3: the PULL was at CELL 4.
        x.seed(0);
        x.lay(0, 4);
        due(1, x.draws(1));
    }

    private static int stillThere(ClawBox x) {
        int left = 0;
        for (int cell = 1; cell < 16; cell++) {
            left += x.cellIs(cell, 0);
        }
        return left;
    }

    private static void wouldBe() {
        fewest();
        game();
        hauls();
        springsThatFit();
        odds();
        seenAndFill();
    }

    private static void fewest() {
        promise = "promise 18";
        ClawBox x = new ClawBox();
        x.lay(0, 6);
        x.lay(0, 6);
        x.lay(0, 6);
        x.lay(0, 6);
        due(1, x.fewest(3, 1, -1));
        due(6, x.fewest(3, 1, 0));
        due(NONE, x.fewest(3, 3, 1));
        due(2, x.fewest(2, 3, -1));
        due(6, x.fewest(2, 2, 1));
        due(NONE, x.fewest(2, 2, 2));
        due(3, x.fewest(1, 3, -1));
        due(6, x.fewest(1, 3, 2));
        due(NONE, x.fewest(1, 2, -1));
        due(NONE, x.fewest(0, 3, -1));
        due(STATE, x.fewest(x.pull(6), 3, -1));
        x.out(0);
        due(STATE, x.fewest(0, 3, 0));
        due(BEYOND, x.fewest(4, 3, 0));
        due(BEYOND, x.fewest(-1, 3, 0));
        due(BEYOND, x.fewest(1, 0, 0));
        due(BEYOND, x.fewest(1, 4, 0));
        due(BEYOND, x.fewest(1, 1, -2));
        due(BEYOND, x.fewest(1, 1, 3));
        due(BEYOND, x.fewest(0, 0, 0));
        due(1, x.count(1));
        due(2, x.cellIs(6, 0));

        // Let fall three times, the spring just strong enough: 2, 1, THE CHUTE.
        x = new ClawBox();
        x.lay(0, 3);
        x.spring(0, 12);
        due(3, x.fewest(0, 3, -1));
        due(3, x.fewest(0, 3, 0));
        due(2, x.fewest(0, 3, 1));
        due(1, x.fewest(0, 3, 2));
        x.spring(0, 11);
        due(NONE, x.fewest(0, 3, -1));
        x.spring(1, 0);
        due(3, x.fewest(0, 3, -1));

        // A THING that is held only with another one under it falls from CELL 6 on the one in CELL 5.
        x = new ClawBox();
        x.lay(60, 6);
        x.lay(0, 5);
        text(x, 0, "80-40*u");
        x.spring(0, 45);
        due(2, x.fewest(0, 3, -1));
        due(6, x.fewest(0, 3, 0));
        due(5, x.fewest(0, 3, 1));
    }

    private static void game() {
        promise = "promise 19";
        ClawBox x = new ClawBox();
        due(0, x.game(3, 0));
        due(1, x.game(3, 1));
        x.lay(0, 6);
        x.lay(0, 9);
        x.set(0, 2, 20);
        x.set(1, 2, 30);
        due(30, x.game(1, 0));
        due(9, x.game(1, 1));
        due(10, x.game(2, 0));
        due(9, x.game(2, 1));
        due(10, x.game(3, 0));
        // Below the poor one lies a rich one: who takes the poor one gives the rich one away,
        // so the first one of three PULLS waits, and the other one, too.
        x = new ClawBox();
        x.lay(0, 5);
        x.lay(0, 5);
        x.set(0, 2, 90);
        due(10, x.game(1, 0));
        due(5, x.game(1, 1));
        due(-10, x.game(2, 0));
        due(1, x.game(2, 1));
        due(10, x.game(3, 0));
        due(1, x.game(3, 1));
        text(x, 1, "0-w");
        due(0, x.game(1, 0));
        due(1, x.game(1, 1));
        due(0, x.game(2, 0));
        due(1, x.game(2, 1));
        due(0, x.count(1));
        due(2, x.cellIs(5, 0));
        due(BEYOND, x.game(0, 0));
        due(BEYOND, x.game(4, 0));
        due(BEYOND, x.game(1, 2));
        due(BEYOND, x.game(1, -1));
        // With every CELL full of what is disliked, to PULL is still a must.
        x = new ClawBox();
        for (int cell = 1; cell < 16; cell++) {
            x.lay(0, cell);
            x.set(cell - 1, 2, 50 - cell);
        }
        text(x, 1, "0-w");
        due(-35, x.game(1, 0));
        due(15, x.game(1, 1));
        due(-35, x.game(2, 0));
        due(15, x.game(2, 1));
    }

    private static void hauls() {
        promise = "promise 20";
        ClawBox x = new ClawBox();
        for (int i = 0; i < 4; i++) {
            x.lay(0, 5);
            x.set(i, 2, 1 + i);
        }
        row(x, 0, 5, 5, 16, 5);
        due(7, x.haul(0));
        row(x, 0, 5, 5, 5, 5, 5, 1);
        due(10, x.haul(0));
        row(x, 0);
        due(0, x.haul(0));
        row(x, 0, 0, 5);
        due(0, x.haul(0));
        due(0, x.count(1));
        due(4, x.cellIs(5, 0));
        row(x, 0, 5, 5, 5);
        text(x, 1, "w-3");
        due(0, x.haul(0));
        x.spring(0, 20);
        due(1, x.haul(0));
        due(NONE, x.haul(1));
        due(BEYOND, x.haul(4));
        due(BEYOND, x.haul(-1));

        promise = "promise 21";
        x = new ClawBox();
        int[] worths = {50, 20, 30, 20};
        for (int i = 0; i < 4; i++) {
            x.lay(0, 3 + i);
            x.set(i, 2, worths[i]);
        }
        row(x, 0, 3);
        due(1, x.changed(0));
        row(x, 0, 3, 4, 5);
        due(3, x.changed(0));
        row(x, 0, 4, 6);
        due(NONE, x.changed(0));
        row(x, 0, 5);
        due(102, x.changed(0));
        row(x, 0, 0, 3);
        due(NONE, x.changed(0));
        x.out(1);
        row(x, 0, 3);
        due(3, x.changed(0));
        due(50, x.haul(0));
        due(3, x.thingIs(0, 3));
        due(NONE, x.changed(1));
        due(BEYOND, x.changed(4));
        due(BEYOND, x.changed(-1));
        // In one PILE, too.
        x = new ClawBox();
        x.lay(0, 5);
        x.lay(0, 5);
        x.set(0, 2, 3);
        row(x, 0, 5);
        due(1, x.changed(0));
        due(1, x.cellIs(5, 1));
    }

    private static void springsThatFit() {
        promise = "promise 22";
        ClawBox x = new ClawBox();
        row(x, 0, 30, 2, 58, 1);
        due(29, x.springs(0, 0));
        due(30, x.springs(0, 1));
        row(x, 0, 30, 2, 58, 1, 7);
        due(29, x.springs(0, 0));
        x.spring(1, 9);
        // PULL 1 has S - 9: twice that 58 at least, but less than 58 itself.
        due(29, x.springs(0, 0));
        due(38, x.springs(0, 1));
        row(x, 0);
        due(100, x.springs(0, 0));
        due(0, x.springs(0, 1));
        row(x, 0, 5);
        due(100, x.springs(0, 0));
        row(x, 0, MIN, 2);
        due(100, x.springs(0, 0));
        row(x, 0, MAX, 0);
        due(100, x.springs(0, 0));
        row(x, 0, 0, 2, 0, 2);
        due(100, x.springs(0, 0));
        row(x, 0, 60, 0);
        due(30, x.springs(0, 0));
        due(0, x.springs(0, 1));
        row(x, 0, 60, 3);
        due(0, x.springs(0, 0));
        due(NONE, x.springs(0, 1));
        row(x, 0, 60, -1);
        due(0, x.springs(0, 0));
        due(NONE, x.springs(1, 0));
        due(BEYOND, x.springs(0, 2));
        due(BEYOND, x.springs(0, -1));
        due(BEYOND, x.springs(4, 0));
        due(BEYOND, x.springs(3, 2));
        // 200 in 8 bits is -56, which every spring holds.
        x.sheet(2, 8, 2);
        x.put(2, 0, 200);
        x.put(2, 1, 2);
        due(100, x.springs(2, 0));
    }

    private static void odds() {
        promise = "promise 23";
        ClawBox x = new ClawBox();
        x.lay(20, 5);
        x.lay(29, 5);
        x.lay(0, 6);
        x.spring(0, 18);
        row(x, 0, 6);
        // 18 * 16 / 20 is 14 of 16.
        due(7, x.odds(0, 0));
        due(8, x.odds(0, 1));
        row(x, 0, 5, 5);
        // 18 * 16 / 21 is 13, and the one below NEEDS 12: sure.
        due(13, x.odds(0, 0));
        due(16, x.odds(0, 1));
        row(x, 0, 6, 5, 5);
        // 14, 17 * 16 / 21 is 12, 16.
        due(21, x.odds(0, 0));
        due(32, x.odds(0, 1));
        row(x, 0, 5, 5, 5);
        due(0, x.odds(0, 0));
        due(1, x.odds(0, 1));
        row(x, 0, 1);
        due(0, x.odds(0, 0));
        due(1, x.odds(0, 1));
        x.spring(0, 99);
        row(x, 0, 5, 6, 5);
        due(1, x.odds(0, 0));
        due(1, x.odds(0, 1));
        x.spring(0, 0);
        row(x, 0, 5);
        due(0, x.odds(0, 0));
        due(1, x.odds(0, 1));
        // A BLUE one below NEEDS as it lies now, with one on it.
        x.lay(50, 9);
        x.lay(0, 9);
        x.spring(0, 13);
        x.spring(1, 0);
        row(x, 0, 9, 9);
        // 13 * 16 / 20 is 10, 13 * 16 / 14 is 14.
        due(35, x.odds(0, 0));
        due(64, x.odds(0, 1));
        row(x, 0, 5, 5, 5, 5, 5);
        due(NONE, x.odds(0, 0));
        row(x, 0);
        due(NONE, x.odds(0, 0));
        row(x, 0, 5, 0);
        due(NONE, x.odds(0, 1));
        row(x, 0, 16);
        due(NONE, x.odds(0, 1));
        due(NONE, x.odds(1, 0));
        due(BEYOND, x.odds(1, 2));
        due(BEYOND, x.odds(1, -1));
        due(BEYOND, x.odds(4, 0));
        due(BEYOND, x.odds(-1, 0));
        due(0, x.count(1));
    }

    private static void seenAndFill() {
        promise = "promise 24";
        ClawBox x = new ClawBox();
        x.lay(0, 13);
        x.lay(0, 13);
        x.lay(0, 5);
        due(2, x.seen(1, 0));
        due(1, x.seen(1, 1));
        due(NONE, x.seen(1, 2));
        due(NONE, x.seen(0, 0));
        x.lay(0, 4);
        due(3, x.seen(0, 0));
        for (int i = 0; i < 5; i++) {
            x.lay(0, 15);
        }
        due(8, x.seen(3, 4));
        due(4, x.seen(3, 0));
        due(BEYOND, x.seen(3, 5));
        due(BEYOND, x.seen(3, -1));
        due(BEYOND, x.seen(4, 0));
        due(BEYOND, x.seen(-1, 0));

        promise = "promise 25";
        due(0, x.fill(0));
        due(11, x.fill(1));
        due(30 - 2 - 1 - 1 - 2, x.fill(2));
        due(75 - 9, x.fill(5));
        due(BEYOND, x.fill(6));
        due(BEYOND, x.fill(-1));
        due(75, new ClawBox().fill(5));
    }

    private static void says(ClawBox x, int thing, int voice, int with, int answer, int... bodies) {
        due(answer, x.voice(thing, voice, with));
        due(bodies.length, x.count(10));
        for (int i = 0; i < bodies.length; i++) {
            due(bodies[i], x.body(i));
        }
        due(NONE, x.body(bodies.length));
        due(NONE, x.body(-1));
    }

    private static void voices() {
        promise = "promises 26, 27";
        ClawBox x = new ClawBox();
        for (int kind = 0; kind < 7; kind++) {
            x.lay(10 * kind + 9, 1 + kind);
        }
        says(x, 0, 0, 7, 7, 10);
        says(x, 0, 1, 7, 14, 11, 10);
        says(x, 0, 2, 7, 5, 12, 11, 10);
        says(x, 0, 3, -19, -2, 13);
        says(x, 1, 0, 7, 5, 20, 10);
        says(x, 1, 1, 7, 10, 11, 20, 10);
        says(x, 1, 2, 7, 1, 12, 11, 20, 10);
        // -19 by 8 is -2; rolls(1) is (1 + 1 - 3) * 2.
        says(x, 1, 3, -19, -4, 21, 13, 11, 20, 10);
        says(x, 2, 0, 7, 9, 10);
        says(x, 2, 1, 7, -18, 30, 11, 10);
        says(x, 2, 2, 7, -27, 12, 30, 11, 10);
        says(x, 3, 1, -7, -8, 11, 10);
        says(x, 3, 2, -7, -9, 40, 12, 11, 10);
        // (7 + 4 - 3) * 3, twice, less 9, xor 4.
        says(x, 4, 0, 7, 24, 50, 20, 10);
        says(x, 4, 1, 7, 48, 11, 50, 20, 10);
        says(x, 4, 2, 7, 35, 51, 12, 11, 50, 20, 10);
        says(x, 4, 3, 11, 2 + 12, 21, 13, 11, 50, 20, 10);
        says(x, 5, 0, 7, 12, 10);
        says(x, 5, 1, 7, -26, 60, 30, 11, 10);
        says(x, 5, 2, 7, -35, 12, 60, 30, 11, 10);
        says(x, 6, 0, 7, 4, 70);
        says(x, 6, 1, 7, 17, 71, 11, 70);
        says(x, 6, 2, 7, 8, 12, 71, 11, 70);
        says(x, 6, 3, 7, 2, 13);
        says(x, 0, 0, MAX, MAX, 10);
        says(x, 1, 0, MIN, MAX - 1, 20, 10);
        says(x, 0, 1, MAX, -2, 11, 10);

        promise = "promise 26, errors";
        x.set(1, 1, 0);
        says(x, 1, 3, MIN, MIN - 2, 21, 13, 11, 20, 10);
        x.set(1, 1, 1);
        // PARTED ends it there: rolls(1) of BODY 21 doesn't begin.
        says(x, 1, 3, 7, PARTED, 21, 13);
        says(x, 6, 0, 7, 4, 70);
        x.set(4, 1, 4);
        says(x, 4, 3, 7, PARTED, 21, 13);
        x.set(0, 1, 0);
        says(x, 0, 3, MIN, PARTED, 13);
        x.set(0, 1, 9);
        says(x, 0, 3, 18, 2, 13);
        x.set(6, 1, 6);
        says(x, 6, 3, 0, PARTED, 13);
        x.set(2, 1, 2);
        says(x, 2, 3, 7, PARTED, 13);
        x.set(3, 1, 3);
        says(x, 3, 3, 7, PARTED, 13);
        x.set(5, 1, 5);
        says(x, 5, 3, 7, PARTED, 13);
        due(7, x.told(6));
        says(x, 6, 0, 7, 4, 70);
        // A voice() that is BEYOND begins no BODY: THE TRACE stays as it was.
        due(BEYOND, x.voice(7, 0, 0));
        due(BEYOND, x.voice(-1, 0, 0));
        due(BEYOND, x.voice(0, 4, 0));
        due(BEYOND, x.voice(0, -1, 0));
        due(1, x.count(10));
        due(70, x.body(0));
        int told = x.told(1);
        due(BEYOND, x.voice(0, 0, BEYOND));
        due(told, x.told(1));
    }

    private static void sheets() {
        promise = "promise 28";
        ClawBox x = new ClawBox();
        due(BEYOND, x.sheet(4, 8, 1));
        due(BEYOND, x.sheet(-1, 8, 1));
        due(BEYOND, x.sheet(0, 7, 1));
        due(BEYOND, x.sheet(0, 64, 1));
        due(BEYOND, x.sheet(4, 8, -1));
        due(BEYOND, x.sheet(0, 9, -1));
        due(STATE, x.sheet(0, 8, -1));
        due(STATE, x.sheet(0, 8, MIN));
        due(BEYOND, x.sheet(0, 8, 25));
        due(BEYOND, x.sheet(0, 8, MAX));
        due(NONE, x.pulls(0));
        due(1, x.sheet(0, 8, 24));
        due(1, x.put(0, 23, 1));
        due(1, x.sheet(0, 0, -7));
        due(NONE, x.pulls(0));
        due(1, x.sheet(0, 0, 99));
        due(1, x.sheet(0, 32, 0));
        due(0, x.pulls(0));
        due(BEYOND, x.put(0, 0, 1));
        row(x, 0, 1, 1);
        due(2, x.pulls(0));
        x.sheet(0, 16, 2);
        due(0, x.pulls(0));

        promise = "promise 29";
        x = new ClawBox();
        x.sheet(0, 8, 2);
        due(BEYOND, x.put(4, 0, 0));
        due(BEYOND, x.put(-1, 0, 0));
        due(NONE, x.put(1, 0, 0));
        due(NONE, x.put(1, 99, 0));
        due(BEYOND, x.put(0, 2, 0));
        due(BEYOND, x.put(0, -1, 0));
        due(1, x.put(0, 0, 256 + 3));
        due(1, x.put(0, 1, 65536 * 5 + 4));
        due(2, x.pulls(0));
        x.sheet(0, 16, 2);
        x.put(0, 0, 256 + 3);
        due(0, x.pulls(0));
        x.put(0, 0, 65536 + 3);
        due(1, x.pulls(0));
        x.sheet(0, 32, 1);
        x.put(0, 0, 65536 + 3);
        due(0, x.pulls(0));
        move();
        judge();
    }

    private static void move() {
        promise = "promise 30";
        ClawBox x = new ClawBox();
        for (int i = 0; i < 5; i++) {
            x.lay(0, 1);
        }
        row(x, 0, 0, 1, 2, 3, 4);
        due(-1, x.judge(0, 1));
        due(3, x.move(0, 0, 0, 2, 3));
        due(2, x.judge(0, 1));
        due(3, x.move(0, 2, 0, 0, 3));
        row(x, 1, 3, 4);
        due(2, x.move(1, 0, 0, 3, 2));
        // 0 1 2 was moved to and fro, then 3 4 came behind it.
        due(-1, x.judge(0, 1));
        row(x, 0, 9, 0, 1, 2, 3);
        due(4, x.move(0, 1, 0, 0, 4));
        x.put(0, 4, 4);
        due(-1, x.judge(0, 1));
        due(0, x.move(0, 5, 1, 2, 0));
        due(BEYOND, x.move(0, 6, 1, 0, 0));
        due(BEYOND, x.move(0, 0, 1, 3, 0));
        due(BEYOND, x.move(0, 0, 1, 0, 3));
        due(BEYOND, x.move(1, 0, 0, 0, 3));
        due(BEYOND, x.move(0, 3, 0, 0, 3));
        due(BEYOND, x.move(0, -1, 0, 0, 1));
        due(BEYOND, x.move(0, 0, 0, -1, 1));
        due(BEYOND, x.move(0, 0, 0, 0, -1));
        due(BEYOND, x.move(0, MAX, 0, 0, 1));
        due(BEYOND, x.move(0, 1, 0, 0, MAX));
        due(BEYOND, x.move(0, 0, 0, MAX, MAX));
        due(BEYOND, x.move(4, 0, 0, 0, 1));
        due(BEYOND, x.move(0, 0, 4, 0, 1));
        due(BEYOND, x.move(2, 0, -1, 0, 1));
        due(NONE, x.move(0, 0, 2, 0, 1));
        due(NONE, x.move(2, 0, 0, 0, 1));
        due(NONE, x.move(2, 0, 2, 0, -1));
        x.sheet(2, 16, 5);
        due(KIND, x.move(0, 0, 2, 0, 1));
        due(KIND, x.move(0, 0, 2, 0, -1));
        due(-1, x.judge(0, 1));
    }

    private static void judge() {
        promise = "promise 31";
        ClawBox x = new ClawBox();
        x.lay(0, 6);
        x.lay(0, 9);
        x.lay(0, 6);
        row(x, 0, 0, 2);
        due(-1, x.judge(0, 6));
        row(x, 0, 2, 0);
        due(0, x.judge(0, 6));
        row(x, 0, 0, 1);
        due(1, x.judge(0, 6));
        row(x, 0, 0);
        due(1, x.judge(0, 6));
        row(x, 0, 0, 2, 1);
        due(2, x.judge(0, 6));
        row(x, 0);
        due(0, x.judge(0, 6));
        due(-1, x.judge(0, 5));
        due(-1, x.judge(0, 0));
        row(x, 0, 0);
        due(0, x.judge(0, 0));
        row(x, 0, -1);
        due(0, x.judge(0, 5));
        due(BEYOND, x.judge(4, 5));
        due(BEYOND, x.judge(-1, 5));
        due(BEYOND, x.judge(1, 16));
        due(BEYOND, x.judge(1, -1));
        due(NONE, x.judge(1, 5));
    }

    private static void imagesAndTold() {
        images();
        waiting();
        counts();
        toldErrors();
    }

    private static void images() {
        promise = "promises 32, 33";
        ClawBox x = new ClawBox();
        due(NONE, x.restore());
        x.lay(61, 5);
        x.lay(0, 5);
        text(x, 0, "50");
        text(x, 1, "w+1");
        feed(x, "m*2");
        x.tell(2);
        x.seed(77);
        x.pull(9);
        x.spring(0, 70);
        x.spring(1, 3);
        x.set(1, 2, 33);
        due(1, x.image());

        x.lay(0, 6);
        x.untell(0);
        text(x, 1, "w+2");
        feed(x, "m*3+1");
        x.tell(3);
        x.tell(3);
        x.draws(7);
        x.out(0);
        x.spring(0, 1);
        x.spring(1, 1);
        x.set(0, 0, 2);
        x.set(0, 1, 2);
        x.set(1, 2, 44);
        row(x, 0, 0, 1);
        x.voice(0, 0, 0);
        x.voice(9, 0, 0);

        for (int i = 0; i < 2; i++) {
            due(1, x.restore());
            due(2, x.count(0));
            due(1, x.count(1));
            due(1, x.count(2));
            due(67, x.count(3));
            due(70, x.count(4));
            due(3, x.count(5));
            due(3, x.count(8));
            due(1, x.count(9));
            due(77, x.count(11));
            due(6, x.thingIs(0, 0));
            due(1, x.thingIs(0, 1));
            due(50, x.thingIs(0, 6));
            due(34, x.thingIs(1, 7));
            due(5, x.thingIs(0, 3));
            due(1, x.thingIs(1, 4));
            due(0, x.cellIs(6, 0));
            x.draws(3);
            x.pull(5);
            x.out(0);
            x.text(0);
            x.check(3);
        }
        due(1, x.restore());
        due(1, x.text(0));
        due(2, x.thingIs(0, 6));
        due(-1, x.judge(0, 5));
        due(1, x.count(10));
        due(1, x.told(1));
        due(2, x.image());
        x.out(1);
        due(3, x.image());
        due(1, x.restore());
        due(-2, x.thingIs(1, 3));
        due(0, x.count(8));
        due(4, x.image());
    }

    private static void waiting() {
        promise = "promise 34";
        ClawBox x = new ClawBox();
        for (int i = 1; i <= 24; i++) {
            due(i, x.tell(MIN + i));
        }
        due(FULL, x.tell(0));
        due(24, x.count(9));
        due(1, x.check(1));
        due(1, x.tell(0));

        promise = "promise 35";
        x = new ClawBox();
        x.spring(0, 21);
        x.lay(10, 7);
        x.lay(0, 7);
        x.lay(0, 7);
        // STRENGTH 21 holds 20; 20 holds 20; 19 lets the BALL (30) fall; then there is nothing.
        x.tell(2);
        x.tell(2);
        x.tell(1);
        x.tell(0);
        due(0, x.check(7));
        due(0, x.count(9));
        due(0, x.count(1));
        due(0, x.count(2));
        due(3, x.cellIs(7, 0));
        x.tell(2);
        x.tell(2);
        x.tell(2);
        due(3, x.check(7));
        x.tell(1);
        x.tell(2);
        due(1, x.check(7));
        due(0, x.check(7));
        x.tell(2);
        due(BEYOND, x.check(0));
        due(0, x.count(9));
        x.tell(2);
        due(BEYOND, x.check(16));
        due(0, x.count(9));
        due(BEYOND, x.check(-1));
        due(3, x.told(1));
        // It falls back, as 5 lie in the next CELL.
        x.spring(0, 15);
        for (int i = 0; i < 5; i++) {
            x.lay(0, 6);
        }
        x.tell(3);
        x.tell(3);
        due(0, x.check(7));
    }

    private static void counts() {
        promise = "promise 36";
        ClawBox x = new ClawBox();
        x.lay(0, 1);
        x.lay(0, 2);
        x.lay(0, 3);
        x.set(1, 2, 25);
        x.pull(1);
        x.pull(2);
        x.out(2);
        x.spring(1, 4);
        x.feed(0, 3);
        x.tell(5);
        x.tell(5);
        x.voice(0, 2, 0);
        x.seed(-9);
        int[] dues = {3, 2, 2, 52, 60, 4, 2, 35, 3, 2, 3, -9};
        for (int what = 0; what < dues.length; what++) {
            due(dues[what], x.count(what));
        }
        x.back(1, 4);
        due(1, x.count(6));
        due(10, x.count(7));
        x.spring(0, 7);
        due(0, x.count(3));
        due(BEYOND, x.count(12));
        due(BEYOND, x.count(-1));
    }

    private static void toldErrors() {
        promise = "promise 37";
        ClawBox x = new ClawBox();
        due(BEYOND, x.told(0));
        due(BEYOND, x.told(7));
        due(BEYOND, x.told(-1));
        due(3, x.told(1));
        due(NONE, x.body(0));
        due(1, x.told(2));
        x.lay(9, 1);
        due(STATE, x.back(0, 1));
        due(1, x.told(3));
        for (int i = 0; i < 4; i++) {
            x.lay(0, 1);
        }
        due(FULL, x.lay(0, 1));
        due(1, x.told(4));
        due(KIND, x.as(0, 1));
        due(1, x.told(5));
        x.set(0, 1, 0);
        due(PARTED, x.voice(0, 3, 1));
        due(1, x.told(6));
        due(-10, x.text(0));
        due(3, x.told(1));
    }
}
