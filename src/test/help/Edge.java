import java.io.IOException;
import java.nio.file.Files;
import java.nio.file.Path;
import java.util.ArrayList;
import java.util.HashSet;
import java.util.List;
import java.util.Set;

/**
 * What the tests of the edges share. Each test names the sentence of the document that it holds to; a sentence that the
 * document hasn't is a fault of the test.
 */
class Edge {

    static final int LOW = -1000000000;
    static final int BEYOND = LOW - 1;
    static final int NONE = LOW - 2;
    static final int STATE = LOW - 3;
    static final int FULL = LOW - 4;
    static final int KIND = LOW - 5;
    static final int PARTED = LOW - 6;
    static final int MIN = Integer.MIN_VALUE;
    static final int MAX = Integer.MAX_VALUE;

    /** What a box is read by; each part is read from a box of its own, as reading may change it. */
    static final int PARTS = 31;
    /** The part that has what told() tells, those from which on the IMAGE and then the SHEETS are read, and the counts. */
    static final int TOLD = 0;
    static final int IMAGES = 5;
    static final int SHEETS_ON = 10;
    static final int COUNTS = 15;

    private static final String DOC = doc();
    private static final Set<String> SENTENCES = new HashSet<>();
    private static int asked = 0;
    private static int wrong = 0;
    private static String sentence = "";

    interface Setup {
        ClawBox box();
    }

    interface Call {
        long on(ClawBox x);
    }

    private static String doc() {
        try {
            return Files.readString(Path.of("../shared/DOC.md")).replaceAll("\\s+", " ");
        } catch (IOException e) {
            throw new IllegalStateException(e);
        }
    }

    static void sentence(String words) {
        sentence = words;
        SENTENCES.add(words);
        if (!DOC.contains(words)) {
            fail("the document has no such sentence");
        }
    }

    private static void fail(String what) {
        wrong++;
        int line = 0;
        for (StackTraceElement at : Thread.currentThread().getStackTrace()) {
            if (at.getClassName().startsWith("Edges")) {
                line = at.getLineNumber();
                break;
            }
        }
        System.out.println("'" + sentence + "', line " + line + ": " + what);
    }

    static void due(long want, long got) {
        asked++;
        if (want != got) {
            fail(got + ", due is " + want);
        }
    }

    static void end() {
        System.out.println(SENTENCES.size() + " sentences: " + (asked - wrong) + " answers as due, " + wrong + " not");
        if (wrong != 0) {
            System.exit(1);
        }
    }

    // ---- calls that are refused, or only look

    /** The call answers this ERROR, which is counted, and nothing else changes. */
    static void refused(int error, Setup setup, Call call) {
        due(error, call.on(setup.box()));
        alike(setup, after(setup, call), LOW - error);
    }

    /** The call answers no ERROR and changes nothing. */
    static void looks(Setup setup, Call call) {
        if (call.on(setup.box()) < LOW) {
            fail("an ERROR");
        }
        alike(setup, after(setup, call), 0);
    }

    static Setup after(Setup setup, Call call) {
        return () -> {
            ClawBox x = setup.box();
            call.on(x);
            return x;
        };
    }

    /** Both boxes show the same, but that the other one has told one ERROR LOW - k more (k 0: none). */
    static void alike(Setup one, Setup other, int k) {
        asked++;
        for (int part = 0; part < PARTS; part++) {
            List<Long> dues = read(one.box(), part);
            if (part == TOLD && k > 0) {
                dues.set(k - 1, dues.get(k - 1) + 1);
            }
            List<Long> got = read(other.box(), part);
            for (int i = 0; i < Math.max(dues.size(), got.size()); i++) {
                if (i >= dues.size() || i >= got.size() || !dues.get(i).equals(got.get(i))) {
                    fail("the box reads otherwise, in part " + part + " from number " + i + " on");
                    return;
                }
            }
        }
    }

    static List<Long> read(ClawBox x, int part) {
        List<Long> seen = new ArrayList<>();
        switch (part) {
            case TOLD -> readTold(x, seen);
            case 1 -> readBodies(x, seen);
            case 2, 3 -> readTape(x, part - 2, seen);
            case 4 -> seen.add((long) x.draws(60));
            case IMAGES -> seen.add((long) x.image());
            case 6 -> {
                seen.add((long) x.restore());
                readCounts(x, seen);
            }
            case 7, 8 -> {
                seen.add((long) x.restore());
                readTape(x, part - 7, seen);
            }
            case 9 -> {
                seen.add((long) x.restore());
                seen.add((long) x.check(2));
            }
            case 10, 11, 12, 13 -> readSheet(x, part - SHEETS_ON, seen);
            case 14 -> seen.add(x.untell(0) + 2L * x.untell(1));
            case COUNTS -> readCounts(x, seen);
            default -> seen.add((long) x.check(part - COUNTS));
        }
        return seen;
    }

    private static void readTold(ClawBox x, List<Long> seen) {
        for (int k = 1; k <= 6; k++) {
            seen.add((long) x.told(k));
        }
    }

    private static void readCounts(ClawBox x, List<Long> seen) {
        for (int what = 0; what <= 11; what++) {
            seen.add((long) x.count(what));
        }
        for (int thing = 0; thing < 16; thing++) {
            for (int what = 0; what <= 7; what++) {
                seen.add((long) x.thingIs(thing, what));
            }
        }
        for (int cell = 0; cell < 16; cell++) {
            for (int what = 0; what <= 3; what++) {
                seen.add((long) x.cellIs(cell, what));
            }
        }
    }

    private static void readBodies(ClawBox x, List<Long> seen) {
        for (int i = 0; i < 31; i++) {
            seen.add((long) x.body(i));
        }
    }

    private static void readTape(ClawBox x, int use, List<Long> seen) {
        seen.add((long) x.text(use));
        for (int thing = 0; thing < 16; thing++) {
            seen.add((long) x.thingIs(thing, 6 + use));
        }
    }

    private static void readSheet(ClawBox x, int sheet, List<Long> seen) {
        int other = (sheet + 1) % 4;
        for (int bits = 8; bits <= 32; bits *= 2) {
            x.sheet(other, bits, 0);
            seen.add((long) x.move(sheet, 0, other, 0, 0));
        }
        seen.addAll(numbers(x, sheet, other));
    }

    /** The numbers of a SHEET, each as springs() knows it; another SHEET is written over. */
    static List<Long> numbers(ClawBox x, int sheet, int other) {
        int bits = 8;
        for (int b = 8; b <= 32; b *= 2) {
            x.sheet(other, b, 0);
            bits = x.move(sheet, 0, other, 0, 0) == 0 ? b : bits;
        }
        List<Long> seen = new ArrayList<>();
        x.sheet(other, bits, 2);
        for (int i = 0; i < 24 && x.move(sheet, i, other, 0, 1) == 1; i++) {
            x.put(other, 1, 2);
            long held = x.springs(other, 0);
            x.put(other, 1, 1);
            seen.add(1000 * held + x.springs(other, 0));
        }
        return seen;
    }

    // ---- texts and rows

    /** Feeds a text to THE TAPE in words of at most 8 bytes. */
    static void feed(ClawBox x, String s) {
        for (int from = 0; from < s.length(); from += 8) {
            int n = Math.min(8, s.length() - from);
            long word = 0;
            for (int i = n - 1; i >= 0; i--) {
                word = word << 8 | s.charAt(from + i);
            }
            x.feed(word, n);
        }
    }

    static int text(ClawBox x, int use, String s) {
        feed(x, s);
        return x.text(use);
    }

    static String times(String s, int n) {
        return s.repeat(n);
    }

    static void row(ClawBox x, int sheet, int... numbers) {
        x.sheet(sheet, 32, numbers.length);
        for (int i = 0; i < numbers.length; i++) {
            x.put(sheet, i, numbers[i]);
        }
    }

    static void tell(ClawBox x, int... numbers) {
        for (int number : numbers) {
            x.tell(number);
        }
    }

    static void lay(ClawBox x, int km, int cell, int times) {
        for (int i = 0; i < times; i++) {
            x.lay(km, cell);
        }
    }

    // ---- boxes in which all that can change stands apart from what it was at first

    /**
     * THINGS 0 .. 9 (8 WON, 9 out), both TEXTS, SHEETS 0, 1, 2 of 32, 16, 8 bits, an IMAGE unlike it, THE TRACE of six.
     * "7+m" is on THE TAPE; 2, 1, 0 wait, as CELL 2 would do.
     */
    static ClawBox rich() {
        ClawBox x = new ClawBox();
        x.lay(61, 5);
        x.lay(52, 5);
        x.lay(0, 5);
        x.lay(13, 2);
        x.lay(24, 2);
        x.lay(35, 9);
        x.lay(46, 10);
        x.lay(7, 15);
        x.lay(0, 1);
        x.lay(19, 12);
        text(x, 0, "20+o*10-u+c");
        text(x, 1, "w*2-k+m");
        x.pull(1);
        x.out(9);
        feed(x, "7");
        x.tell(2);
        x.image();
        x.spring(0, 37);
        x.spring(1, 3);
        x.seed(12345);
        x.pull(3);
        x.set(7, 2, 99);
        feed(x, "+m");
        tell(x, 1, 0);
        row(x, 0, 5, 2, 9, 5);
        x.sheet(1, 16, 2);
        x.put(1, 0, 1);
        x.put(1, 1, 2);
        x.sheet(2, 8, 3);
        x.put(2, 1, 1);
        x.put(2, 2, 2);
        x.thingIs(-1, 0);
        x.body(0);
        x.out(9);
        x.as(0, 1);
        x.voice(3, 3, 1);
        x.voice(6, 2, 7);
        return x;
    }

    /** As rich(), and 5 in CELL 13. */
    static ClawBox piled() {
        ClawBox x = rich();
        lay(x, 3, 13, 5);
        return x;
    }

    /** As piled(), and one more THING: 16 in all. */
    static ClawBox crowded() {
        ClawBox x = piled();
        x.lay(8, 14);
        return x;
    }

    /** As rich(), with 60 bytes on THE TAPE, a TEXT. */
    static ClawBox taped() {
        ClawBox x = rich();
        feed(x, times("+1", 28) + "0");
        return x;
    }

    /** As rich(), with 24 numbers that wait. */
    static ClawBox waited() {
        ClawBox x = rich();
        for (int i = 3; i < 24; i++) {
            x.tell(0);
        }
        return x;
    }
}
