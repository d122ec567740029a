import java.util.Arrays;

/** Edges of promises 14 to 17 and of what Term 1 says of a PULL, Term 3 of DRAWS. */
public final class EdgesOfPulls extends Edge {

    public static void main(String[] args) {
        held();
        letFall();
        wayToTheChute();
        fallsBack();
        onNothing();
        oneMore();
        pull();
        pulls();
        draws();
        drawnCells();
        seed();
        end();
    }

    /** A box with one THING in a CELL, SPRING so strong, WEAKER 0. */
    private static ClawBox one(int km, int cell, int spring) {
        ClawBox x = new ClawBox();
        x.lay(km, cell);
        x.spring(0, spring);
        x.spring(1, 0);
        return x;
    }

    private static void held() {
        sentence("if STRENGTH is NEEDS or more, it is WON.");
        for (int km = 0; km < 70; km++) {
            int needs = one(km, 6, 0).thingIs(0, 6);
            due(0, one(km, 6, needs).pull(6));
            due(0, one(km, 6, needs + 1).pull(6));
            due(0, one(km, 6, 99).pull(6));
            due(-1, one(km, 6, needs - 1).pull(6));
            ClawBox x = one(km, 6, needs);
            due(2, x.cellIs(6, 3));
            x.pull(6);
            due(-1, x.thingIs(0, 3));
            due(0, x.cellIs(6, 0));
            due(1, x.count(6));
        }
        // NEEDS 99 and SPRING 99; NEEDS 1 and STRENGTH 1.
        ClawBox x = one(60, 6, 99);
        text(x, 0, "99");
        due(0, x.pull(6));
        x = one(60, 6, 1);
        text(x, 0, "1");
        due(0, x.pull(6));
    }

    private static void letFall() {
        sentence("Else, if twice STRENGTH is NEEDS or more, it is lifted, and let fall one CELL nearer to THE CHUTE");
        for (int km = 0; km < 70; km++) {
            int needs = one(km, 6, 0).thingIs(0, 6);
            int half = (needs + 1) / 2;
            for (int strength : new int[] {half, needs - 1}) {
                ClawBox x = one(km, 6, strength);
                due(1, x.cellIs(6, 3));
                due(-1, x.pull(6));
                due(5, x.thingIs(0, 3));
                due(0, x.cellIs(6, 0));
                due(0, x.count(6));
            }
            sentence("Else it stays.");
            for (int strength : new int[] {half - 1, 0}) {
                ClawBox x = one(km, 6, strength);
                due(0, x.cellIs(6, 3));
                due(-1, x.pull(6));
                due(6, x.thingIs(0, 3));
            }
        }
    }

    private static void wayToTheChute() {
        sentence("along the row (one column less), if the column isn't 0, else one row less: on the PILE there; if that is THE CHUTE, it is WON");
        for (int cell = 1; cell < 16; cell++) {
            int next = cell % 4 != 0 ? cell - 1 : cell - 4;
            ClawBox x = one(0, cell, 10);
            due(next == 0 ? 0 : -1, x.pull(cell));
            due(next == 0 ? -1 : next, x.thingIs(0, 3));
            due(next == 0 ? 1 : 0, x.count(6));
            if (next != 0) {
                due(1, x.cellIs(next, 0));
                due(0, x.thingIs(0, 4));
                // It lies on those that are there.
                x = one(0, cell, 10);
                lay(x, 39, next, 3);
                due(-1, x.pull(cell));
                due(0, x.cellIs(next, 1));
                due(3, x.thingIs(0, 4));
                due(0, x.thingIs(0, 5));
            }
        }
        // Too weak, it doesn't come into THE CHUTE.
        due(-1, one(0, 1, 9).pull(1));
        due(-1, one(0, 4, 9).pull(4));
        // THE CHUTE takes any number.
        ClawBox x = one(0, 1, 10);
        lay(x, 0, 1, 4);
        lay(x, 0, 4, 5);
        for (int i = 0; i < 5; i++) {
            due(4 - i, x.pull(1));
            due(9 - i, x.pull(4));
        }
        due(10, x.count(6));
        due(0, x.cellIs(0, 0));
    }

    private static void fallsBack() {
        sentence("if 5 lie there already, it falls back.");
        for (int cell = 2; cell < 16; cell++) {
            int next = cell % 4 != 0 ? cell - 1 : cell - 4;
            if (next == 0) {
                continue;
            }
            ClawBox x = one(9, cell, 15);
            x.lay(9, cell);
            lay(x, 0, next, 4);
            due(1, x.cellIs(cell, 3));
            due(-1, x.pull(cell));
            due(next, x.thingIs(1, 3));
            due(4, x.thingIs(1, 4));
            due(5, x.cellIs(next, 0));
            due(3, x.cellIs(cell, 3));
            due(-1, x.pull(cell));
            due(cell, x.thingIs(0, 3));
            due(0, x.cellIs(cell, 1));
            due(5, x.cellIs(next, 0));
            due(1, x.cellIs(next, 1));
            due(2, x.count(1));
            due(2, x.count(2));
        }
        // Uppermost of its PILE it falls back to where it was.
        ClawBox x = one(9, 6, 15);
        lay(x, 9, 6, 4);
        lay(x, 0, 5, 5);
        due(-1, x.pull(6));
        due(4, x.cellIs(6, 1));
        due(4, x.thingIs(4, 4));
        due(5, x.cellIs(6, 0));
    }

    private static void onNothing() {
        sentence("The uppermost THING there (none: it shuts on nothing)");
        for (int cell = 1; cell < 16; cell++) {
            ClawBox x = new ClawBox();
            due(-1, x.pull(cell));
            due(1, x.count(1));
            due(1, x.count(2));
            due(59, x.count(3));
            due(0, x.count(6));
        }
        // Only the uppermost counts, though the one below is lighter.
        ClawBox x = one(20, 6, 12);
        x.lay(39, 6);
        due(-1, x.pull(6));
        due(2, x.cellIs(6, 0));
        x.out(1);
        due(0, x.pull(6));
    }

    private static void oneMore() {
        sentence("A PULL at a CELL: PENNIES 1 more.");
        int[] springs = {20, 19, 9, 0};
        for (int spring : springs) {
            ClawBox x = one(0, 6, spring);
            x.pull(6);
            due(1, x.count(1));
            due(1, x.count(2));
            x.pull(1);
            due(2, x.count(1));
        }
        sentence("Then PULLS is 1 more.");
        // The PULL itself is as strong as it was ahead of it.
        ClawBox x = one(0, 6, 20);
        x.lay(0, 6);
        x.spring(1, 1);
        due(1, x.pull(6));
        due(19, x.count(3));
        due(-1, x.pull(6));
        due(5, x.thingIs(0, 3));
        due(18, x.count(3));
    }

    private static void pull() {
        sentence("A PULL at a CELL (not THE CHUTE): the THING that is WON; -1: none. BEYOND.");
        for (int cell : new int[] {0, -1, 16, MIN, MAX}) {
            refused(BEYOND, Edge::rich, x -> x.pull(cell));
            refused(BEYOND, ClawBox::new, x -> x.pull(cell));
        }
        due(-1, rich().pull(1));
        due(7, rich().pull(15));
        due(2, rich().pull(5));
        due(-1, new ClawBox().pull(15));
        ClawBox x = crowded();
        x.spring(0, 99);
        due(15, x.pull(14));
        due(0, one(0, 1, 10).pull(1));
    }

    private static void pulls() {
        sentence("A ROW of PULLS: how many were made, up to the first number that pull() would refuse (no ERROR then). BEYOND. NONE.");
        for (int sheet : new int[] {-1, 4, MIN, MAX}) {
            refused(BEYOND, Edge::rich, x -> x.pulls(sheet));
        }
        refused(NONE, Edge::rich, x -> x.pulls(3));
        for (int sheet = 0; sheet < 4; sheet++) {
            int asked = sheet;
            refused(NONE, ClawBox::new, x -> x.pulls(asked));
            ClawBox x = new ClawBox();
            row(x, sheet, 1, 15);
            due(2, x.pulls(sheet));
            due(2, x.count(1));
        }
        for (int wrong : new int[] {0, -1, 16, MIN, MAX}) {
            for (int place = 0; place < 24; place += place == 0 ? 1 : 11) {
                ClawBox x = new ClawBox();
                int[] row = new int[24];
                Arrays.fill(row, 15);
                row[place] = wrong;
                row(x, 0, row);
                due(place, x.pulls(0));
                due(place, x.count(1));
                due(place, x.count(2));
                due(0, x.told(1));
            }
        }
        // The empty SHEET, and the full one.
        ClawBox x = new ClawBox();
        row(x, 0);
        due(0, x.pulls(0));
        due(0, x.count(1));
        row(x, 0, 1, 2, 3, 4, 5, 6, 7, 8, 9, 10, 11, 12, 13, 14, 15, 1, 2, 3, 4, 5, 6, 7, 8, 9);
        due(24, x.pulls(0));
        due(24, x.count(1));
        due(24, x.count(2));
        // In its order.
        x = one(0, 2, 10);
        row(x, 1, 1, 2);
        due(2, x.pulls(1));
        due(1, x.thingIs(0, 3));
        x = one(0, 2, 10);
        row(x, 1, 2, 1);
        due(2, x.pulls(1));
        due(-1, x.thingIs(0, 3));
        due(0, x.told(1) + x.told(2));
        // It is as PULLS one by one, and the SHEET stays as it was.
        alike(() -> pulledOneByOne(rich()), after(Edge::rich, box -> box.pulls(0)), 0);
        // None is made if the first number is no CELL.
        alike(Edge::rich, after(Edge::rich, box -> {
            row(box, 3, 0, 5);
            int made = box.pulls(3);
            box.sheet(3, 0, 0);
            return made;
        }), 0);
    }

    /** What SHEET 0 of rich() tells, by hand. */
    private static ClawBox pulledOneByOne(ClawBox x) {
        for (int cell : new int[] {5, 2, 9, 5}) {
            x.pull(cell);
        }
        return x;
    }

    private static void draws() {
        sentence("n (1 .. 60) PULLS BY DRAWS: how many THINGS were WON. BEYOND.");
        for (int n : new int[] {0, 61, -1, MIN, MAX}) {
            refused(BEYOND, Edge::rich, x -> x.draws(n));
            refused(BEYOND, ClawBox::new, x -> x.draws(n));
        }
        ClawBox x = new ClawBox();
        due(0, x.draws(1));
        due(1, x.count(1));
        due(1, x.count(2));
        due(1103527590, x.count(11));
        due(0, x.draws(60));
        due(61, x.count(1));
        due(61, x.count(2));
        // All 15 CELLS with one THING, held by a spring that doesn't grow weak: each CELL drawn gives one.
        x = new ClawBox();
        x.spring(1, 0);
        for (int cell = 1; cell < 16; cell++) {
            x.lay(0, cell);
        }
        boolean[] drawn = new boolean[16];
        int z = 1;
        int won = 0;
        for (int i = 0; i < 60; i++) {
            z = z * 1103515245 + 12345;
            int cell = 1 + (z >>> 8) % 15;
            won += drawn[cell] ? 0 : 1;
            drawn[cell] = true;
        }
        due(won, x.draws(60));
        due(won, x.count(6));
        due(z, x.count(11));
    }

    private static void drawnCells() {
        sentence("BY DRAWS: a PULL at CELL 1 and a draw's rest by 15.");
        boolean[] met = new boolean[16];
        for (int seed = -40; seed < 40; seed++) {
            int z = seed * 1103515245 + 12345;
            int cell = 1 + (z >>> 8) % 15;
            met[cell] = true;
            ClawBox x = new ClawBox();
            for (int each = 1; each < 16; each++) {
                x.lay(0, each);
            }
            x.seed(seed);
            due(1, x.draws(1));
            due(-1, x.thingIs(cell - 1, 3));
            due(z, x.count(11));
        }
        due(1, met[1] && met[15] ? 1 : 0);

        sentence("DRAWS: z is told (1 at first); each makes it z * 1103515245 + 12345 (an int), and gives z >>> 8.");
        due(1, new ClawBox().count(11));
        int[] seeds = {0, 1, -1, MIN, MAX};
        int[] next = {12345, 1103527590, -1103502900, MIN + 12345, MIN - 1103502900};
        for (int i = 0; i < seeds.length; i++) {
            ClawBox x = new ClawBox();
            x.seed(seeds[i]);
            x.draws(1);
            due(next[i], x.count(11));
            x.seed(seeds[i]);
            x.draws(2);
            due(next[i] * 1103515245 + 12345, x.count(11));
        }
        // 12345 >>> 8 is 48, with the rest 3; -1103502900 >>> 8 is 12466657, with the rest 7 (it has no sign).
        ClawBox x = one(0, 4, 99);
        x.seed(0);
        due(1, x.draws(1));
        x = one(0, 1 + 12466657 % 15, 99);
        x.seed(-1);
        due(1, x.draws(1));
    }

    private static void seed() {
        sentence("z becomes v: what it was (any number).");
        int[] seeds = {MIN, MAX, 0, -1, LOW, BEYOND, PARTED};
        ClawBox x = new ClawBox();
        int was = 1;
        for (int seed : seeds) {
            due(was, x.seed(seed));
            due(seed, x.count(11));
            was = seed;
        }
        due(PARTED, x.seed(1));
        for (int k = 1; k <= 6; k++) {
            due(0, x.told(k));
        }
        alike(Edge::rich, after(Edge::rich, box -> box.seed(-7) + box.seed(12345)), 0);
    }
}
