import java.util.ArrayList;
import java.util.Arrays;
import java.util.List;

/** Edges of promises 28 to 31 and of Term 5: SHEETS. */
public final class EdgesOfSheets extends Edge {

    private static final int[] NO_SHEETS = {-1, 4, MIN, MAX};

    public static void main(String[] args) {
        missing();
        sheet();
        sheetErrors();
        put();
        putBits();
        putErrors();
        move();
        moveEnds();
        moveErrors();
        judge();
        judgeErrors();
        end();
    }

    /** How many numbers a SHEET has; -1: it is missing. */
    private static int length(ClawBox x, int sheet) {
        int n = 0;
        int zeros = x.move(sheet, 0, sheet, 0, 0);
        while (zeros == 0 && x.move(sheet, n, sheet, n, 1) == 1) {
            n++;
        }
        return zeros == NONE ? -1 : n;
    }

    private static void isSheet(ClawBox x, int sheet, int... numbers) {
        due(numbers.length, length(x, sheet));
        List<Long> dues = new ArrayList<>();
        for (int number : numbers) {
            long held = Math.max(0, Math.min(100, 100L - number));
            long fallen = 0;
            for (int spring = 0; spring < 100; spring++) {
                fallen += spring < number && 2 * spring >= number ? 1 : 0;
            }
            dues.add(1000 * held + fallen);
        }
        due(1, numbers(x, sheet, (sheet + 1) % 4).equals(dues) ? 1 : 0);
    }

    private static void missing() {
        sentence("SHEETS 0 .. 3 are rows of 8, 16, 32 bits, at most 24 numbers, or missing (as at first).");
        for (int sheet = 0; sheet < 4; sheet++) {
            int asked = sheet;
            refused(NONE, ClawBox::new, x -> x.put(asked, 0, 1));
            refused(NONE, ClawBox::new, x -> x.move(asked, 0, asked, 0, 0));
            refused(NONE, ClawBox::new, x -> x.judge(asked, 1));
            refused(NONE, ClawBox::new, x -> x.pulls(asked));
        }
        for (int bits = 8; bits <= 32; bits *= 2) {
            for (int sheet = 0; sheet < 4; sheet++) {
                ClawBox x = new ClawBox();
                due(1, x.sheet(sheet, bits, 24));
                isSheet(x, sheet, new int[24]);
                for (int other = 0; other < 4; other++) {
                    due(other == sheet || other == (sheet + 1) % 4 ? 0 : -1, Math.min(0, length(x, other)));
                }
            }
        }
    }

    private static void sheet() {
        sentence("A SHEET has n numbers, all 0, of so many bits (8, 16, 32; 0: it is missing, n doesn't matter): 1.");
        for (int bits = 8; bits <= 32; bits *= 2) {
            for (int n : new int[] {0, 1, 23, 24}) {
                ClawBox x = rich();
                due(1, x.sheet(0, bits, n));
                isSheet(x, 0, new int[n]);
            }
        }
        // All 0 again, also if it had the same length ahead.
        ClawBox x = rich();
        isSheet(rich(), 0, 5, 2, 9, 5);
        due(1, x.sheet(0, 32, 4));
        isSheet(x, 0, 0, 0, 0, 0);
        // Shorter, then longer: what stood there is gone.
        x = new ClawBox();
        row(x, 1, 7, 7, 7, 7);
        x.sheet(1, 32, 1);
        x.sheet(1, 32, 4);
        isSheet(x, 1, 0, 0, 0, 0);
        row(x, 1, 7, 7, 7, 7);
        x.sheet(1, 0, 0);
        x.sheet(1, 32, 4);
        isSheet(x, 1, 0, 0, 0, 0);
        for (int n : new int[] {0, 1, 24, 25, -1, MIN, MAX}) {
            x = rich();
            due(1, x.sheet(1, 0, n));
            due(-1, length(x, 1));
            due(NONE, x.put(1, 0, 1));
            due(1, x.sheet(3, 0, n));
            looks(ClawBox::new, box -> box.sheet(2, 0, n));
        }
        // Other SHEETS stay.
        x = rich();
        x.sheet(1, 8, 5);
        isSheet(x, 0, 5, 2, 9, 5);
        x = rich();
        x.sheet(1, 0, 5);
        isSheet(x, 2, 0, 1, 2);
    }

    private static void sheetErrors() {
        sentence("BEYOND. STATE: n is below 0 (ahead of BEYOND of n).");
        for (int sheet : NO_SHEETS) {
            for (int bits : new int[] {0, 8, 16, 32}) {
                refused(BEYOND, Edge::rich, x -> x.sheet(sheet, bits, 1));
            }
        }
        for (int bits : new int[] {-1, 1, 7, 9, 15, 17, 24, 31, 33, 64, -8, MIN, MAX}) {
            refused(BEYOND, Edge::rich, x -> x.sheet(0, bits, 1));
            refused(BEYOND, Edge::rich, x -> x.sheet(3, bits, 1));
        }
        for (int bits = 8; bits <= 32; bits *= 2) {
            int asked = bits;
            for (int n : new int[] {25, 26, MAX}) {
                refused(BEYOND, Edge::rich, x -> x.sheet(0, asked, n));
                refused(BEYOND, Edge::rich, x -> x.sheet(3, asked, n));
            }
            for (int n : new int[] {-1, -2, MIN}) {
                refused(STATE, Edge::rich, x -> x.sheet(0, asked, n));
                refused(STATE, Edge::rich, x -> x.sheet(3, asked, n));
            }
        }
        sentence("Each act tells its ERRORS in the order in which they are asked");
        refused(BEYOND, Edge::rich, x -> x.sheet(4, 8, -1));
        refused(BEYOND, Edge::rich, x -> x.sheet(-1, 8, -1));
        refused(BEYOND, Edge::rich, x -> x.sheet(0, 9, -1));
    }

    private static void put() {
        sentence("Number i of a SHEET becomes v (its lowest bits): 1.");
        for (int bits = 8; bits <= 32; bits *= 2) {
            for (int i : new int[] {0, 1, 12, 22, 23}) {
                ClawBox x = new ClawBox();
                x.sheet(3, bits, 24);
                due(1, x.put(3, i, 42));
                int[] dues = new int[24];
                dues[i] = 42;
                isSheet(x, 3, dues);
            }
        }
        ClawBox x = new ClawBox();
        x.sheet(0, 8, 1);
        due(1, x.put(0, 0, 99));
        isSheet(x, 0, 99);
        due(1, x.put(0, 0, 0));
        isSheet(x, 0, 0);
    }

    /** What stands in a SHEET of one number, once v was put there. */
    private static void stands(int bits, int v, int due) {
        ClawBox x = new ClawBox();
        x.sheet(0, bits, 1);
        due(1, x.put(0, 0, v));
        isSheet(x, 0, due);
    }

    private static void putBits() {
        sentence("(its lowest bits)");
        int[][] ofBits = {{8, 127, 128, 255}, {16, 32767, 32768, 65535}, {32, MAX, MIN, -1}};
        for (int[] row : ofBits) {
            int bits = row[0];
            stands(bits, 0, 0);
            stands(bits, row[1], row[1]);
            stands(bits, row[2], MIN);
            stands(bits, row[3], -1);
            stands(bits, -1, -1);
            stands(bits, MIN, bits == 32 ? MIN : 0);
            stands(bits, MAX, bits == 32 ? MAX : -1);
            for (int v : new int[] {1, 42, 99, 100, 126}) {
                stands(bits, v, v);
                if (bits < 32) {
                    stands(bits, (1 << bits) + v, v);
                    stands(bits, (7 << bits) + v, v);
                    stands(bits, v - (1 << bits), v);
                }
            }
        }
        stands(16, 256 + 3, 259);
        stands(32, 65536 + 3, 65539);
        // 8 bits: the row of PULLS goes on behind 256 and 3, as that is 3.
        ClawBox x = new ClawBox();
        x.sheet(0, 8, 2);
        x.put(0, 0, 256 + 3);
        x.put(0, 1, 256 + 16);
        due(1, x.pulls(0));
    }

    private static void putErrors() {
        sentence("BEYOND: no such SHEET. NONE: it is missing. BEYOND: no such number.");
        for (int sheet : NO_SHEETS) {
            refused(BEYOND, Edge::rich, x -> x.put(sheet, 0, 1));
        }
        refused(NONE, Edge::rich, x -> x.put(3, 0, 1));
        for (int i : new int[] {-1, 4, 23, 24, MIN, MAX}) {
            refused(BEYOND, Edge::rich, x -> x.put(0, i, 1));
        }
        refused(BEYOND, Edge::rich, x -> x.put(1, 2, 1));
        refused(BEYOND, Edge::rich, x -> x.put(2, 3, 1));
        Setup empty = after(Edge::rich, x -> x.sheet(0, 8, 0));
        refused(BEYOND, empty, x -> x.put(0, 0, 1));
        Setup full = after(Edge::rich, x -> x.sheet(0, 8, 24));
        refused(BEYOND, full, x -> x.put(0, 24, 1));
        due(1, full.box().put(0, 23, 1));

        sentence("Each act tells its ERRORS in the order in which they are asked");
        refused(BEYOND, Edge::rich, x -> x.put(4, -1, 1));
        refused(NONE, Edge::rich, x -> x.put(3, -1, 1));
        refused(NONE, Edge::rich, x -> x.put(3, 24, 1));
    }

    private static void move() {
        sentence("n numbers of a SHEET, from number i on, come to another one (or the same), from its number j on, as they all were: n.");
        for (int bits = 8; bits <= 32; bits *= 2) {
            for (int i = 0; i <= 5; i++) {
                for (int j = 0; j <= 5; j++) {
                    for (int n = 0; n <= 5 - Math.max(i, j); n++) {
                        moved(bits, i, j, n);
                    }
                }
            }
        }
        // The whole of a full SHEET.
        ClawBox x = new ClawBox();
        int[] numbers = new int[24];
        Arrays.setAll(numbers, k -> 4 * k + 1);
        row(x, 2, numbers);
        due(24, x.move(2, 0, 2, 0, 24));
        x.sheet(0, 32, 24);
        due(24, x.move(2, 0, 0, 0, 24));
        isSheet(x, 0, numbers);
        row(x, 2, numbers);
        due(23, x.move(2, 0, 2, 1, 23));
        int[] shifted = numbers.clone();
        System.arraycopy(numbers, 0, shifted, 1, 23);
        isSheet(x, 2, shifted);
    }

    private static void moved(int bits, int i, int j, int n) {
        int[] from = {11, 22, 33, 44, 55};
        int[] to = {1, 2, 3, 4, 5};
        ClawBox x = new ClawBox();
        x.sheet(1, bits, 5);
        x.sheet(3, bits, 5);
        for (int k = 0; k < 5; k++) {
            x.put(1, k, from[k]);
            x.put(3, k, to[k]);
        }
        due(n, x.move(1, i, 3, j, n));
        System.arraycopy(from, i, to, j, n);
        isSheet(x, 3, to);
        x = new ClawBox();
        x.sheet(1, bits, 5);
        for (int k = 0; k < 5; k++) {
            x.put(1, k, from[k]);
        }
        due(n, x.move(1, i, 1, j, n));
        System.arraycopy(from.clone(), i, from, j, n);
        isSheet(x, 1, from);
    }

    private static Setup sheets() {
        return () -> {
            ClawBox x = rich();
            row(x, 0, 5, 2, 9, 5);
            row(x, 1, 1, 2);
            return x;
        };
    }

    private static void moveEnds() {
        sentence("BEYOND: n, i, or j is below 0, or they don't stand there.");
        Setup two = sheets();
        for (int wrong : new int[] {-1, MIN}) {
            refused(BEYOND, two, x -> x.move(0, wrong, 1, 0, 1));
            refused(BEYOND, two, x -> x.move(0, wrong, 1, 0, 0));
            refused(BEYOND, two, x -> x.move(0, 0, 1, wrong, 1));
            refused(BEYOND, two, x -> x.move(0, 0, 1, wrong, 0));
            refused(BEYOND, two, x -> x.move(0, 0, 1, 0, wrong));
            refused(BEYOND, two, x -> x.move(0, 4, 1, 2, wrong));
        }
        // The last that stands there, and the first that doesn't.
        due(2, two.box().move(0, 2, 1, 0, 2));
        refused(BEYOND, two, x -> x.move(0, 3, 1, 0, 2));
        due(1, two.box().move(0, 3, 1, 1, 1));
        refused(BEYOND, two, x -> x.move(0, 4, 1, 1, 1));
        refused(BEYOND, two, x -> x.move(0, 3, 1, 2, 1));
        refused(BEYOND, two, x -> x.move(0, 0, 1, 1, 2));
        refused(BEYOND, two, x -> x.move(0, 0, 1, 0, 3));
        refused(BEYOND, two, x -> x.move(1, 0, 0, 0, 3));
        refused(BEYOND, two, x -> x.move(0, 0, 0, 0, 5));
        looks(two, x -> x.move(0, 0, 0, 0, 4));
        for (int far : new int[] {24, MAX}) {
            refused(BEYOND, two, x -> x.move(0, far, 1, 0, 1));
            refused(BEYOND, two, x -> x.move(0, 0, 1, far, 1));
            refused(BEYOND, two, x -> x.move(0, 0, 1, 0, far));
            refused(BEYOND, two, x -> x.move(0, far, 1, far, far));
            refused(BEYOND, two, x -> x.move(0, 1, 1, 1, far));
        }
        // None at all, at the very end; behind it there is no place.
        looks(two, x -> x.move(0, 4, 1, 2, 0));
        looks(two, x -> x.move(0, 0, 1, 0, 0));
        looks(two, x -> x.move(0, 4, 0, 0, 0));
        refused(BEYOND, two, x -> x.move(0, 5, 1, 0, 0));
        refused(BEYOND, two, x -> x.move(0, 0, 1, 3, 0));
        // An empty SHEET.
        Setup empty = after(two, x -> x.sheet(1, 32, 0));
        looks(empty, x -> x.move(1, 0, 1, 0, 0));
        looks(empty, x -> x.move(1, 0, 0, 4, 0));
        refused(BEYOND, empty, x -> x.move(1, 0, 0, 0, 1));
        refused(BEYOND, empty, x -> x.move(0, 0, 1, 0, 1));
    }

    private static void moveErrors() {
        sentence("BEYOND: no such SHEET. NONE: one is missing. KIND: they are of unlike bits.");
        for (int sheet : NO_SHEETS) {
            refused(BEYOND, Edge::rich, x -> x.move(sheet, 0, 0, 0, 1));
            refused(BEYOND, Edge::rich, x -> x.move(0, 0, sheet, 0, 1));
            refused(BEYOND, Edge::rich, x -> x.move(sheet, 0, sheet, 0, 0));
        }
        refused(NONE, Edge::rich, x -> x.move(3, 0, 0, 0, 1));
        refused(NONE, Edge::rich, x -> x.move(0, 0, 3, 0, 1));
        refused(NONE, Edge::rich, x -> x.move(3, 0, 3, 0, 0));
        for (int one = 0; one < 3; one++) {
            for (int other = 0; other < 3; other++) {
                int from = one;
                int to = other;
                if (one != other) {
                    refused(KIND, Edge::rich, x -> x.move(from, 0, to, 0, 1));
                    refused(KIND, Edge::rich, x -> x.move(from, 0, to, 0, 0));
                } else {
                    looks(Edge::rich, x -> x.move(from, 0, to, 0, 1));
                }
            }
        }
        sentence("Each act tells its ERRORS in the order in which they are asked");
        refused(BEYOND, Edge::rich, x -> x.move(3, 0, 4, 0, 1));
        refused(BEYOND, Edge::rich, x -> x.move(4, 0, 3, 0, 1));
        refused(NONE, Edge::rich, x -> x.move(0, -1, 3, 0, 1));
        refused(NONE, Edge::rich, x -> x.move(3, 0, 0, 0, -1));
        refused(NONE, Edge::rich, x -> x.move(3, 0, 0, 25, 1));
        refused(KIND, Edge::rich, x -> x.move(0, -1, 1, 0, 1));
        refused(KIND, Edge::rich, x -> x.move(0, 0, 1, -1, 1));
        refused(KIND, Edge::rich, x -> x.move(0, 0, 1, 0, -1));
        refused(KIND, Edge::rich, x -> x.move(0, 0, 1, 0, 25));
    }

    private static void judge() {
        sentence("Numbers of a SHEET are the THINGS of a CELL, from the undermost on: the first that isn't so (one that lacks, or is too many, too); -1: all are.");
        for (int cell : new int[] {1, 15}) {
            for (int high = 0; high <= 5; high++) {
                ClawBox x = new ClawBox();
                x.lay(0, 7);
                lay(x, 0, cell, high);
                for (int n = 0; n <= 7; n++) {
                    int[] numbers = new int[n];
                    Arrays.setAll(numbers, k -> 1 + k);
                    row(x, 0, numbers);
                    due(n == high ? -1 : Math.min(n, high), x.judge(0, cell));
                    for (int wrong = 0; wrong < Math.min(n, high); wrong++) {
                        for (int v : new int[] {0, numbers[wrong] - 1, numbers[wrong] + 1, -1, 16, MIN, MAX}) {
                            x.put(0, wrong, v);
                            due(wrong, x.judge(0, cell));
                        }
                        x.put(0, wrong, numbers[wrong]);
                    }
                }
                row(x, 0, new int[24]);
                due(0, x.judge(0, cell));
            }
        }
        // THE CHUTE is a CELL in which nothing lies.
        ClawBox x = new ClawBox();
        x.lay(0, 1);
        x.pull(1);
        row(x, 1);
        due(-1, x.judge(1, 0));
        row(x, 1, 0);
        due(0, x.judge(1, 0));
        // In 8 and in 16 bits, too.
        x = new ClawBox();
        lay(x, 0, 9, 3);
        for (int bits = 8; bits <= 16; bits += 8) {
            x.sheet(2, bits, 3);
            due(1, x.judge(2, 9));
            x.put(2, 1, 1 + (1 << bits));
            due(2, x.judge(2, 9));
            x.put(2, 2, 2);
            due(-1, x.judge(2, 9));
        }
    }

    private static void judgeErrors() {
        sentence("-1: all are. BEYOND. NONE.");
        for (int sheet : NO_SHEETS) {
            refused(BEYOND, Edge::rich, x -> x.judge(sheet, 5));
        }
        for (int cell : new int[] {-1, 16, MIN, MAX}) {
            refused(BEYOND, Edge::rich, x -> x.judge(2, cell));
            refused(BEYOND, Edge::rich, x -> x.judge(3, cell));
        }
        refused(NONE, Edge::rich, x -> x.judge(3, 5));
        refused(NONE, Edge::rich, x -> x.judge(3, 0));
        due(-1, rich().judge(2, 5));
        looks(Edge::rich, x -> x.judge(2, 5));
        looks(Edge::rich, x -> x.judge(0, 15));
        looks(Edge::rich, x -> x.judge(0, 0));
    }
}
