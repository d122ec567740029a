/** Edges of promises 18 to 25 and of Term 3: what would be. */
public final class EdgesOfWouldBe extends Edge {

    private static final int[] NO_SHEETS = {-1, 4, MIN, MAX};

    public static void main(String[] args) {
        fewest();
        fewestWay();
        fewestErrors();
        game();
        gameFirst();
        gameTurns();
        gameCells();
        gameErrors();
        haul();
        haulErrors();
        changed();
        changedLeast();
        changedErrors();
        springs();
        springsWeaker();
        springsErrors();
        odds();
        oddsDeep();
        oddsErrors();
        seen();
        fill();
        end();
    }

    /** A box whose spring doesn't grow weak. */
    private static ClawBox steady(int spring) {
        ClawBox x = new ClawBox();
        x.spring(0, spring);
        x.spring(1, 0);
        return x;
    }

    private static void isWay(ClawBox x, int thing, int n, int... cells) {
        due(cells.length, x.fewest(thing, n, -1));
        for (int i = 0; i < 3; i++) {
            due(i < cells.length ? cells[i] : NONE, x.fewest(thing, n, i));
        }
    }

    // ---- FEWEST

    private static void fewest() {
        sentence("FEWEST of a THING by n (1 .. 3): the fewest PULLS (at any CELLS but THE CHUTE) by which it is WON");
        for (int cell : new int[] {1, 4, 6, 15}) {
            ClawBox x = steady(99);
            lay(x, 9, cell, 4);
            for (int n = 1; n <= 3; n++) {
                isWay(x, 3, n, cell);
            }
            isWay(x, 2, 2, cell, cell);
            isWay(x, 2, 3, cell, cell);
            isWay(x, 1, 3, cell, cell, cell);
            due(NONE, x.fewest(2, 1, -1));
            due(NONE, x.fewest(1, 1, -1));
            due(NONE, x.fewest(1, 2, -1));
            due(NONE, x.fewest(0, 3, -1));
        }
        // Let fall on the way: 1 PULL from CELL 1 or 4, 3 from 3, 5, 6 .., and 4 don't do.
        int[] far = {0, 1, 2, 3, 1, 2, 3, 4, 2, 3, 4, 5, 3, 4, 5, 6};
        for (int cell = 1; cell < 16; cell++) {
            ClawBox x = steady(10);
            x.lay(0, cell);
            due(far[cell] <= 3 ? far[cell] : NONE, x.fewest(0, 3, -1));
            due(far[cell] <= 2 ? far[cell] : NONE, x.fewest(0, 2, -1));
            due(far[cell] <= 1 ? far[cell] : NONE, x.fewest(0, 1, -1));
        }
        // The spring grows weaker by the way: 22, 21, 20 hold three of NEEDS 20, 21, 20, 19 don't.
        ClawBox x = new ClawBox();
        lay(x, 0, 7, 3);
        x.spring(0, 22);
        isWay(x, 0, 3, 7, 7, 7);
        x.spring(0, 21);
        due(NONE, x.fewest(0, 3, -1));
        isWay(x, 1, 3, 7, 7);
        x.pull(1);
        due(NONE, x.fewest(1, 3, -1));
        isWay(x, 2, 3, 7);
        // What is let fall from on it frees it, too; what falls back doesn't.
        x = steady(20);
        x.lay(0, 6);
        x.lay(30, 6);
        isWay(x, 0, 3, 6, 6);
        lay(x, 30, 5, 5);
        isWay(x, 0, 3, 5, 6, 6);
        lay(x, 39, 4, 5);
        due(NONE, x.fewest(0, 3, -1));
        due(0, x.count(1));
    }

    private static void fewestWay() {
        sentence("THE WAY: of such rows the first as CELLS.");
        // THING 0 in CELL 5 is let fall on CELL 4, where it can be WON if not just one lies below it: the one there can
        // be WON ahead (4, 5, 4), or another one can come from CELL 8 (8, 5, 4).
        ClawBox x = steady(40);
        x.lay(60, 5);
        x.lay(0, 4);
        x.lay(31, 8);
        text(x, 0, "(c=5)*80+(c=4)*(u=1)*99");
        isWay(x, 0, 3, 4, 5, 4);
        due(NONE, x.fewest(0, 2, -1));
        x.set(1, 0, 3);
        x.set(1, 1, 9);
        x.spring(0, 28);
        text(x, 0, "(c=5)*56+(c=4)*(u=1)*99");
        // Now the one in CELL 4 is held by nothing, so the other way is left.
        isWay(x, 0, 3, 8, 5, 4);
    }

    private static void fewestErrors() {
        sentence("FEWEST of a THING by n: what -1 how many, i the i-th CELL of THE WAY (0 .. 2). BEYOND.");
        for (int n : new int[] {0, 4, -1, MIN, MAX}) {
            refused(BEYOND, Edge::rich, x -> x.fewest(7, n, -1));
        }
        for (int what : new int[] {-2, 3, MIN, MAX}) {
            refused(BEYOND, Edge::rich, x -> x.fewest(7, 3, what));
        }
        for (int thing : new int[] {-1, 10, 16, MIN, MAX}) {
            refused(BEYOND, Edge::rich, x -> x.fewest(thing, 3, -1));
        }
        refused(BEYOND, ClawBox::new, x -> x.fewest(0, 1, -1));
        for (int n = 1; n <= 3; n++) {
            int asked = n;
            looks(Edge::rich, x -> x.fewest(7, asked, -1));
            looks(Edge::rich, x -> x.fewest(7, asked, 0));
        }
        looks(Edge::rich, x -> x.fewest(3, 3, -1));
        looks(Edge::crowded, x -> x.fewest(14, 3, -1));

        sentence("STATE: it is in no CELL. NONE: n don't do; there is no i-th.");
        refused(STATE, Edge::rich, x -> x.fewest(8, 3, -1));
        refused(STATE, Edge::rich, x -> x.fewest(9, 1, 2));
        refused(NONE, Edge::piled, x -> x.fewest(10, 3, -1));
        refused(NONE, Edge::piled, x -> x.fewest(10, 3, 0));
        refused(NONE, Edge::rich, x -> x.fewest(7, 3, 1));
        refused(NONE, Edge::rich, x -> x.fewest(7, 1, 2));

        sentence("Each act tells its ERRORS in the order in which they are asked");
        refused(BEYOND, Edge::rich, x -> x.fewest(8, 0, -1));
        refused(BEYOND, Edge::rich, x -> x.fewest(8, 4, -1));
        refused(BEYOND, Edge::rich, x -> x.fewest(9, 1, 3));
        refused(BEYOND, Edge::rich, x -> x.fewest(9, 1, -2));
        refused(BEYOND, Edge::piled, x -> x.fewest(10, 3, 3));
    }

    // ---- GAME

    private static void isGame(ClawBox x, int n, int value, int first) {
        due(value, x.game(n, 0));
        due(first, x.game(n, 1));
    }

    private static void game() {
        sentence("GAME of n (1 .. 3) PULLS: two who PULL by turns (the one first), each at any CELL but THE CHUTE;");
        for (int n = 1; n <= 3; n++) {
            isGame(new ClawBox(), n, 0, 1);
        }
        // One THING alone: the first one takes it, wherever it lies.
        for (int cell = 1; cell < 16; cell++) {
            ClawBox x = steady(99);
            x.lay(0, cell);
            for (int n = 1; n <= 3; n++) {
                due(10, x.game(n, 0));
            }
            due(cell, x.game(1, 1));
        }
        // LIKES are held within 999 each, what a player comes to is not: below the best lies the worst one, and all that
        // the other one could take is as bad.
        ClawBox x = steady(99);
        for (int cell = 1; cell < 16; cell++) {
            x.lay(0, cell);
            x.set(cell - 1, 2, 0);
        }
        x.lay(0, 15);
        x.set(15, 2, 99);
        text(x, 1, "(w-50)*100");
        isGame(x, 1, 999, 15);
        isGame(x, 2, 1998, 15);
        text(x, 1, "(50-w)*100");
        // All are liked but the one in the last CELL, which hides one.
        isGame(x, 1, 999, 1);
        isGame(x, 2, 0, 1);
        isGame(x, 3, 999, 1);
    }

    private static void gameFirst() {
        sentence("VALUE: how much the first one comes to; FIRST: the least CELL by which it does.");
        ClawBox x = steady(99);
        x.lay(0, 9);
        x.lay(0, 7);
        x.lay(0, 12);
        isGame(x, 1, 10, 7);
        isGame(x, 2, 0, 7);
        isGame(x, 3, 10, 7);
        x.set(0, 2, 11);
        isGame(x, 1, 11, 9);
        isGame(x, 2, 1, 9);
        isGame(x, 3, 11, 9);
        // The last CELL alone is empty, and none of the others is liked.
        x = steady(99);
        for (int cell = 1; cell < 15; cell++) {
            x.lay(0, cell);
        }
        text(x, 1, "0-w");
        isGame(x, 1, 0, 15);
        // All are full of what isn't liked: a PULL must be.
        x.lay(0, 15);
        isGame(x, 1, -10, 1);
        x.set(14, 2, 9);
        isGame(x, 1, -9, 15);
        // LIKES of 0 are no worse than nothing: the least CELL.
        text(x, 1, "0");
        isGame(x, 1, 0, 1);
    }

    private static void gameTurns() {
        sentence("each wants as much as can be of what that one WINS, by LIKES together, less what the other one does");
        // Below the poor one lies a rich one: whoever takes the poor one gives the rich one away.
        ClawBox x = steady(99);
        x.lay(0, 5);
        x.lay(0, 5);
        x.set(0, 2, 90);
        isGame(x, 1, 10, 5);
        isGame(x, 2, -10, 1);
        isGame(x, 3, 10, 1);
        // Let fall, it lies one CELL nearer for the other one.
        x = steady(10);
        x.lay(0, 2);
        isGame(x, 1, 0, 1);
        isGame(x, 2, 0, 1);
        isGame(x, 3, 0, 1);
        x = steady(10);
        x.lay(0, 1);
        isGame(x, 1, 10, 1);
        // Strong enough for one PULL: 20 holds it, 19 doesn't.
        x = new ClawBox();
        x.lay(0, 6);
        x.lay(0, 9);
        x.set(1, 2, 30);
        x.spring(0, 20);
        isGame(x, 1, 30, 9);
        isGame(x, 2, 30, 9);
        isGame(x, 3, 30, 9);
        x.spring(0, 21);
        isGame(x, 2, 20, 9);
        isGame(x, 3, 20, 9);
    }

    private static void gameCells() {
        sentence("each at any CELL but THE CHUTE;");
        // Each of the three takes the best that is left, wherever it lies.
        for (int one = 1; one < 16; one++) {
            for (int two = 1; two < 16; two++) {
                int three = one % 15 + 1 == two ? two % 15 + 1 : one % 15 + 1;
                if (one == two || three == one) {
                    continue;
                }
                ClawBox x = steady(99);
                x.lay(0, one);
                x.lay(0, two);
                x.lay(0, three);
                x.set(0, 2, 90);
                x.set(1, 2, 50);
                x.set(2, 2, 7);
                isGame(x, 1, 90, one);
                isGame(x, 2, 40, one);
                isGame(x, 3, 47, one);
            }
        }
        // Only in one CELL there is nothing, and nobody likes what lies in the others.
        for (int cell = 1; cell < 16; cell++) {
            ClawBox x = steady(99);
            for (int each = 1; each < 16; each++) {
                if (each != cell) {
                    x.lay(0, each);
                }
            }
            text(x, 1, "0-w");
            isGame(x, 1, 0, cell);
            isGame(x, 2, 0, cell);
            isGame(x, 3, 0, cell);
        }
    }

    private static void gameErrors() {
        sentence("GAME of n: what 0 VALUE, 1 FIRST. BEYOND.");
        for (int n : new int[] {0, 4, -1, MIN, MAX}) {
            refused(BEYOND, Edge::rich, x -> x.game(n, 0));
            refused(BEYOND, ClawBox::new, x -> x.game(n, 1));
        }
        for (int what : new int[] {-1, 2, MIN, MAX}) {
            refused(BEYOND, Edge::rich, x -> x.game(1, what));
            refused(BEYOND, Edge::rich, x -> x.game(3, what));
        }
        for (int n = 1; n <= 3; n++) {
            int asked = n;
            looks(Edge::crowded, x -> x.game(asked, 0));
            looks(Edge::crowded, x -> x.game(asked, 1));
        }
    }

    // ---- HAUL, CHANGED

    private static void haul() {
        sentence("A ROW of PULLS (numbers of a SHEET: CELLS, in order): HAUL: LIKES of all WON by it, together.");
        ClawBox x = steady(99);
        for (int i = 0; i < 16; i++) {
            x.lay(0, 1 + i / 5);
        }
        row(x, 0, 1, 1, 1, 1, 1, 2, 2, 2, 2, 2, 3, 3, 3, 3, 3, 4, 1, 1, 1, 1, 1, 1, 1, 1);
        due(160, x.haul(0));
        // LIKES are held within -999 .. 999 each, the HAUL isn't.
        text(x, 1, "9999");
        due(15984, x.haul(0));
        text(x, 1, "0-9999");
        due(-15984, x.haul(0));
        x.untell(1);
        row(x, 1);
        due(0, x.haul(1));
        row(x, 1, 15);
        due(0, x.haul(1));
        row(x, 1, 4);
        due(10, x.haul(1));
        row(x, 1, 4, 4);
        due(10, x.haul(1));
        // What is WON already, or let fall, doesn't count; what comes into THE CHUTE does.
        due(15, x.pull(4));
        due(0, x.haul(1));
        x = steady(10);
        x.lay(0, 3);
        row(x, 1, 3);
        due(0, x.haul(1));
        row(x, 1, 3, 2);
        due(0, x.haul(1));
        row(x, 1, 3, 2, 1);
        due(10, x.haul(1));
        row(x, 1, 1, 2, 3);
        due(0, x.haul(1));
        x.out(0);
        row(x, 1, 3, 2, 1);
        due(0, x.haul(1));
        due(0, x.count(1));
    }

    private static void haulErrors() {
        sentence("HAUL of a ROW (up to the first number that pull() would refuse). BEYOND. NONE.");
        for (int sheet : NO_SHEETS) {
            refused(BEYOND, Edge::rich, x -> x.haul(sheet));
        }
        refused(NONE, Edge::rich, x -> x.haul(3));
        for (int sheet = 0; sheet < 4; sheet++) {
            int asked = sheet;
            refused(NONE, ClawBox::new, x -> x.haul(asked));
        }
        for (int sheet = 0; sheet < 3; sheet++) {
            int asked = sheet;
            looks(Edge::rich, x -> x.haul(asked));
        }
        for (int wrong : new int[] {0, -1, 16, MIN, MAX}) {
            for (int place = 0; place < 4; place++) {
                ClawBox x = steady(99);
                lay(x, 0, 15, 4);
                int[] row = {15, 15, 15, 15};
                row[place] = wrong;
                row(x, 3, row);
                due(10 * place, x.haul(3));
                due(0, x.told(1));
            }
        }
    }

    private static void changed() {
        sentence("CHANGED: of all pairs of THINGS in CELLS that could change places (each lies just where the other one lay)");
        // The last two of 16: only their change makes it less.
        ClawBox x = steady(99);
        for (int i = 0; i < 16; i++) {
            x.lay(0, 1 + i % 15);
            x.set(i, 2, 50);
        }
        x.set(14, 2, 49);
        row(x, 0, 1);
        due(1415, x.changed(0));
        x.set(14, 2, 50);
        x.set(1, 2, 49);
        due(115, x.changed(0));
        x.set(15, 2, 49);
        due(NONE, x.changed(0));
        x.set(0, 2, 48);
        due(15, x.changed(0));
        // In one PILE; the place in it counts.
        x = steady(99);
        lay(x, 0, 6, 5);
        for (int i = 0; i < 5; i++) {
            x.set(i, 2, 20 + i);
        }
        row(x, 0, 6);
        due(4, x.changed(0));
        row(x, 0, 6, 6);
        due(4, x.changed(0));
        x.set(3, 2, 30);
        due(3, x.changed(0));
        // NEEDS go with the place: a BLUE one is heavier with one on it.
        x = steady(13);
        x.lay(50, 6);
        x.lay(50, 9);
        x.lay(50, 9);
        row(x, 0, 6);
        due(10, x.haul(0));
        due(NONE, x.changed(0));
        x.set(1, 0, 3);
        due(1, x.changed(0));
        // Those that are WON or out don't change places.
        x = steady(99);
        x.lay(0, 6);
        x.lay(0, 9);
        x.lay(0, 10);
        x.set(1, 2, 1);
        x.set(2, 2, 2);
        row(x, 0, 6);
        due(1, x.changed(0));
        x.out(1);
        due(2, x.changed(0));
        due(2, x.pull(10));
        due(NONE, x.changed(0));
        due(1, x.back(1, 4));
        due(1, x.changed(0));
        // Nor does the less one of the two.
        for (int won = 0; won < 2; won++) {
            x = steady(99);
            x.lay(0, 9);
            x.lay(0, 6);
            x.set(0, 2, 1);
            row(x, 0, 6);
            due(1, x.changed(0));
            due(won == 0 ? 9 : 0, won == 0 ? x.out(0) : x.pull(9));
            due(10, x.haul(0));
            due(NONE, x.changed(0));
        }
    }

    private static void changedLeast() {
        sentence("if it is less than as they lie: 100 times the less THING, and the other one; of several the least.");
        ClawBox x = steady(99);
        int[] worths = {50, 20, 20, 19, 19};
        for (int i = 0; i < worths.length; i++) {
            x.lay(0, 5 + i);
            x.set(i, 2, worths[i]);
        }
        row(x, 0, 5);
        due(3, x.changed(0));
        x.out(3);
        due(4, x.changed(0));
        x.out(4);
        due(1, x.changed(0));
        x.set(0, 2, 20);
        due(NONE, x.changed(0));
        x.set(0, 2, 19);
        due(NONE, x.changed(0));
        x.set(0, 2, 21);
        due(1, x.changed(0));
        sentence("that by which the HAUL of the ROW is least, if it is less than as they lie");
        // Several pairs come to the same least: (0, 2), (0, 3), (1, 2), (1, 3).
        x = steady(99);
        for (int i = 0; i < 4; i++) {
            x.lay(0, 5 + i);
            x.set(i, 2, i < 2 ? 30 : 7);
        }
        row(x, 0, 5, 6);
        due(2, x.changed(0));
        row(x, 0, 6);
        due(102, x.changed(0));
        // Less than nothing, by LIKES.
        text(x, 1, "0-w");
        row(x, 0, 7);
        due(2, x.changed(0));
        row(x, 0, 8);
        due(3, x.changed(0));
        row(x, 0, 5);
        due(NONE, x.changed(0));
    }

    private static void changedErrors() {
        sentence("CHANGED for a ROW (likewise). BEYOND. NONE: the SHEET is missing; by none it is less.");
        for (int sheet : NO_SHEETS) {
            refused(BEYOND, Edge::rich, x -> x.changed(sheet));
        }
        refused(NONE, Edge::rich, x -> x.changed(3));
        for (int sheet = 0; sheet < 4; sheet++) {
            int asked = sheet;
            refused(NONE, ClawBox::new, x -> x.changed(asked));
        }
        looks(Edge::rich, x -> x.changed(0));
        // The empty ROW; one that stops at once; no THING; one alone.
        refused(NONE, () -> rowed(new ClawBox()), x -> x.changed(0));
        refused(NONE, () -> rowed(new ClawBox(), 5, 6), x -> x.changed(0));
        refused(NONE, () -> rowed(rich()), x -> x.changed(0));
        for (int wrong : new int[] {0, -1, 16, MIN, MAX}) {
            refused(NONE, () -> rowed(rich(), wrong, 5, 15), x -> x.changed(0));
            looks(() -> rowed(rich(), 15, wrong), x -> x.changed(0));
        }
        ClawBox x = steady(99);
        x.lay(0, 6);
        row(x, 0, 6);
        due(NONE, x.changed(0));
    }

    private static ClawBox rowed(ClawBox x, int... numbers) {
        row(x, 0, numbers);
        return x;
    }

    // ---- SPRINGS

    /** How many springs fit, and the least. */
    private static void fit(ClawBox x, int many, int least, int... numbers) {
        row(x, 0, numbers);
        due(many, x.springs(0, 0));
        due(least, x.springs(0, 1));
    }

    private static void springs() {
        sentence("SPRINGS that fit: numbers of a SHEET, two by two: what a THING NEEDED (any number), and what came of it");
        ClawBox x = new ClawBox();
        fit(x, 100, 0);
        fit(x, 100, 0, 0, 2);
        fit(x, 100, 0, -1, 2);
        fit(x, 100, 0, MIN, 2);
        fit(x, 0, NONE, 0, 1);
        fit(x, 0, NONE, 0, 0);
        fit(x, 0, NONE, MIN, 1);
        fit(x, 100, 0, MAX, 0);
        fit(x, 0, NONE, MAX, 1);
        fit(x, 0, NONE, MAX, 2);
        fit(x, 100, 0, 199, 0);
        fit(x, 1, 99, 198, 1);
        fit(x, 99, 0, 198, 0);
        fit(x, 1, 99, 197, 1);
        fit(x, 2, 98, 196, 1);
        sentence("(0 it stayed, 1 it was let fall, 2 it was held)");
        fit(x, 1, 0, 1, 0);
        fit(x, 99, 1, 1, 2);
        fit(x, 0, NONE, 1, 1);
        fit(x, 1, 0, 2, 0);
        fit(x, 1, 1, 2, 1);
        fit(x, 98, 2, 2, 2);
        fit(x, 2, 0, 3, 0);
        fit(x, 1, 2, 3, 1);
        fit(x, 1, 99, 99, 2);
        fit(x, 0, NONE, 100, 2);
        fit(x, 50, 50, 100, 1);
        fit(x, 50, 0, 100, 0);
        fit(x, 0, NONE, 50, 3);
        fit(x, 0, NONE, 50, -1);
        fit(x, 0, NONE, 50, MIN);
        fit(x, 0, NONE, 50, MAX);
        fit(x, 0, NONE, 0, 258);
        sentence("A number that is left over doesn't matter.");
        fit(x, 100, 0, 5);
        fit(x, 100, 0, MAX);
        fit(x, 1, 99, 99, 2, 1);
        fit(x, 1, 99, 99, 2, 2000);
        // It is about the SHEET alone: not the spring's own strength, not its PULLS.
        x.spring(0, 7);
        x.draws(50);
        fit(x, 1, 99, 99, 2);
    }

    private static void springsWeaker() {
        sentence("in PULLS 0, 1, .. since the spring was wound, with WEAKER as it is: SPRINGS (0 .. 99) by which all is so: how many, the least.");
        ClawBox x = new ClawBox();
        for (int weaker = 0; weaker <= 9; weaker++) {
            x.spring(1, weaker);
            // 12 pairs, all that a SHEET can have: the last is PULL 11.
            int[] row = new int[24];
            for (int i = 0; i < 12; i++) {
                row[2 * i + 1] = 2;
            }
            fit(x, 100, 0, row);
            row[22] = 1;
            int least = 1 + 11 * weaker;
            fit(x, Math.max(0, 100 - least), least <= 99 ? least : NONE, row);
            row[23] = 0;
            fit(x, Math.min(100, least), 0, row);
            // And the second is PULL 1.
            fit(x, 99 - weaker, 1 + weaker, 0, 2, 1, 2);
            fit(x, 1 + weaker, 0, 0, 2, 1, 0);
        }
        // Pairs that contradict each other.
        fit(x, 0, NONE, 50, 2, 60, 2, 90, 2);
        x.spring(1, 0);
        fit(x, 0, NONE, 50, 2, 50, 1);
        fit(x, 1, 50, 50, 2, 51, 1);
    }

    private static void springsErrors() {
        sentence("SPRINGS that fit, by a SHEET: what 0 how many, 1 the least. BEYOND. NONE: it is missing; none fits (what 1).");
        for (int sheet : NO_SHEETS) {
            refused(BEYOND, Edge::rich, x -> x.springs(sheet, 0));
            refused(BEYOND, Edge::rich, x -> x.springs(sheet, 1));
        }
        for (int what : new int[] {-1, 2, MIN, MAX}) {
            refused(BEYOND, Edge::rich, x -> x.springs(0, what));
            refused(BEYOND, Edge::rich, x -> x.springs(3, what));
        }
        for (int sheet = 0; sheet < 4; sheet++) {
            int asked = sheet;
            refused(NONE, ClawBox::new, x -> x.springs(asked, 0));
            refused(NONE, ClawBox::new, x -> x.springs(asked, 1));
        }
        refused(NONE, Edge::rich, x -> x.springs(3, 0));
        refused(NONE, () -> rowed(rich(), 50, 3), x -> x.springs(0, 1));
        looks(() -> rowed(rich(), 50, 3), x -> x.springs(0, 0));
        looks(Edge::rich, x -> x.springs(0, 0));
        looks(Edge::rich, x -> x.springs(1, 1));
    }

    // ---- ODDS

    private static void odd(ClawBox x, long above, long below, int... numbers) {
        row(x, 0, numbers);
        due(above, x.odds(0, 0));
        due(below, x.odds(0, 1));
    }

    private static void odds() {
        sentence("ODDS of a ROW of 1 .. 4 PULLS: if each grip holds by chance: STRENGTH of that PULL (as PULLS go) times 16 by NEEDS (cut), 16 at most, of 16 cases, else it stays");
        ClawBox x = steady(99);
        for (int cell = 1; cell < 5; cell++) {
            x.lay(60, cell);
        }
        text(x, 0, "99");
        odd(x, 1, 1, 1);
        odd(x, 1, 1, 1, 2, 3, 4);
        x.spring(0, 98);
        odd(x, 15, 16, 1);
        odd(x, 225, 256, 1, 2);
        odd(x, 3375, 4096, 1, 2, 3);
        odd(x, 50625, 65536, 1, 2, 3, 4);
        x.spring(0, 7);
        odd(x, 1, 16, 1);
        odd(x, 1, 256, 1, 2);
        odd(x, 1, 65536, 1, 2, 3, 4);
        x.spring(0, 6);
        odd(x, 0, 1, 1);
        odd(x, 0, 1, 1, 2, 3, 4);
        x.spring(0, 0);
        odd(x, 0, 1, 4);
        text(x, 0, "1");
        odd(x, 0, 1, 4);
        x.spring(0, 1);
        odd(x, 1, 1, 4);
        x.spring(0, 99);
        odd(x, 1, 1, 4, 3, 2, 1);

        sentence("a fraction in lowest terms (0 is 0 by 1; a CELL without a THING then: 0).");
        text(x, 0, "16");
        for (int strength = 1; strength <= 17; strength++) {
            x.spring(0, strength);
            int above = Math.min(16, strength);
            int below = 16;
            while (above % 2 == 0 && below > 1) {
                above /= 2;
                below /= 2;
            }
            odd(x, above, below, 1);
            odd(x, above * above, below * below, 1, 2);
            odd(x, above * above * above, below * below * below, 1, 2, 3);
            odd(x, (long) above * above * above * above, (long) below * below * below * below, 1, 2, 3, 4);
        }
        odd(x, 0, 1, 5);
        odd(x, 0, 1, 15);
        odd(x, 0, 1, 1, 2, 3, 5);
        odd(x, 0, 1, 5, 1, 2, 3);
        odd(x, 0, 1, 1, 1);
        x.out(0);
        odd(x, 0, 1, 1);
        odd(x, 1, 1, 2);
        // As PULLS go: the first at STRENGTH 16 - 2 * 3, the second 3 less, the others 0 at least.
        x = new ClawBox();
        x.lay(60, 1);
        x.lay(60, 2);
        x.lay(60, 3);
        x.lay(60, 4);
        text(x, 0, "16");
        x.spring(0, 16);
        x.spring(1, 3);
        x.pull(15);
        x.pull(15);
        due(10, x.count(3));
        odd(x, 5, 8, 1);
        odd(x, 35, 128, 1, 2);
        odd(x, 35, 512, 1, 2, 3);
        odd(x, 35, 8192, 1, 2, 3, 4);
        x.spring(0, 15);
        odd(x, 0, 1, 1, 2, 3, 4);
        x.spring(0, 7);
        x.spring(1, 9);
        odd(x, 0, 1, 1, 2);
        due(2, x.count(1));
    }

    private static void oddsDeep() {
        sentence("(each one below the other, if a CELL comes again, as all ahead were WON; NEEDS as they lie now)");
        ClawBox x = steady(16);
        for (int i = 0; i < 5; i++) {
            x.lay(60 + i, 15);
        }
        // NEEDS of the one with m 4, 3, 2, 1, 0: 16, 32, 64, 99, 16, however many lie on it then.
        text(x, 0, "16+(m=3)*16+(m=2)*48+(m=1)*90");
        odd(x, 1, 1, 15);
        odd(x, 1, 2, 15, 15);
        odd(x, 1, 8, 15, 15, 15);
        odd(x, 1, 64, 15, 15, 15, 15);
        // NEEDS as they lie now: with one on each of those below.
        text(x, 0, "16+16*(o>0)");
        odd(x, 1, 1, 15);
        odd(x, 1, 2, 15, 15);
        odd(x, 1, 8, 15, 15, 15, 15);
        x.lay(69, 1);
        odd(x, 1, 1, 15, 1);
        odd(x, 1, 2, 15, 1, 15);
        odd(x, 1, 4, 15, 15, 1, 15);
        odd(x, 0, 1, 1, 15, 1);
        // Five deep there is none more; a ROW has four.
        x.out(0);
        odd(x, 1, 8, 15, 15, 15, 15);
        x.out(1);
        odd(x, 0, 1, 15, 15, 15, 15);
        odd(x, 1, 4, 15, 15, 15);
    }

    private static void oddsErrors() {
        sentence("NONE: it is missing, has no number, or more than 4, or one that is no CELL but THE CHUTE.");
        for (int part = 0; part < 2; part++) {
            int asked = part;
            for (int sheet : NO_SHEETS) {
                refused(BEYOND, Edge::rich, x -> x.odds(sheet, asked));
            }
            for (int sheet = 0; sheet < 4; sheet++) {
                int missing = sheet;
                refused(NONE, ClawBox::new, x -> x.odds(missing, asked));
            }
            refused(NONE, Edge::rich, x -> x.odds(3, asked));
            refused(NONE, () -> rowed(rich()), x -> x.odds(0, asked));
            looks(() -> rowed(rich(), 5), x -> x.odds(0, asked));
            looks(() -> rowed(rich(), 5, 5, 5, 5), x -> x.odds(0, asked));
            refused(NONE, () -> rowed(rich(), 5, 5, 5, 5, 5), x -> x.odds(0, asked));
            refused(NONE, () -> rowed(rich(), new int[24]), x -> x.odds(0, asked));
            for (int wrong : new int[] {0, -1, 16, MIN, MAX}) {
                for (int place = 0; place < 4; place++) {
                    int[] row = {1, 1, 1, 1};
                    row[place] = wrong;
                    refused(NONE, () -> rowed(rich(), row), x -> x.odds(0, asked));
                }
                refused(NONE, () -> rowed(rich(), wrong), x -> x.odds(0, asked));
            }
        }
        sentence("ODDS of a ROW: part 0 above, 1 below the line. BEYOND.");
        for (int part : new int[] {-1, 2, MIN, MAX}) {
            refused(BEYOND, Edge::rich, x -> x.odds(0, part));
            refused(BEYOND, Edge::rich, x -> x.odds(3, part));
        }
        sentence("LOW - 6 PARTED (in longs, too).");
        due(-1000000001L, new ClawBox().odds(4, 0));
        due(-1000000002L, new ClawBox().odds(0, 0));
    }

    // ---- SEEN, FILL

    private static void seen() {
        sentence("SEEN from the front in a column, at a height (0 .. 4): the first THING, row by row from the front, that lies so high.");
        for (int column = 0; column < 4; column++) {
            for (int first = column == 0 ? 1 : 0; first < 4; first++) {
                ClawBox x = new ClawBox();
                // From the row on there are higher and higher PILES.
                int laid = 0;
                for (int row = first; row < 4; row++) {
                    lay(x, 0, 4 * row + column, row - first + 1);
                    laid += row - first + 1;
                }
                int seen = 0;
                for (int height = 0; height < 4 - first; height++) {
                    due(seen + height, x.seen(column, height));
                    seen += height + 1;
                }
                due(NONE, x.seen(column, 4 - first));
                for (int other = 0; other < 4; other++) {
                    if (other != column) {
                        due(NONE, x.seen(other, 0));
                    }
                }
                due(laid, x.count(0));
            }
        }
        ClawBox x = new ClawBox();
        lay(x, 0, 15, 5);
        lay(x, 0, 3, 4);
        for (int height = 0; height < 5; height++) {
            due(height < 4 ? 5 + height : 4, x.seen(3, height));
        }

        sentence("SEEN in a column (0 .. 3), at a height. BEYOND. NONE: nothing.");
        for (int column : new int[] {-1, 4, MIN, MAX}) {
            refused(BEYOND, Edge::rich, box -> box.seen(column, 0));
            refused(BEYOND, ClawBox::new, box -> box.seen(column, 4));
        }
        for (int height : new int[] {-1, 5, MIN, MAX}) {
            refused(BEYOND, Edge::piled, box -> box.seen(0, height));
            refused(BEYOND, Edge::piled, box -> box.seen(1, height));
        }
        refused(NONE, Edge::rich, box -> box.seen(0, 0));
        refused(NONE, Edge::rich, box -> box.seen(1, 3));
        refused(NONE, ClawBox::new, box -> box.seen(3, 4));
        looks(Edge::piled, box -> box.seen(1, 4));
        looks(Edge::rich, box -> box.seen(3, 0));
    }

    private static void fill() {
        sentence("FILL for a height (0 .. 5): how many THINGS are wanted, so that each PILE has as many at least.");
        ClawBox x = new ClawBox();
        for (int height = 0; height <= 5; height++) {
            due(15 * height, x.fill(height));
        }
        x.lay(0, 1);
        lay(x, 0, 15, 5);
        lay(x, 0, 8, 3);
        int[] wanted = {0, 12, 12 * 2 + 1, 12 * 3 + 2, 12 * 4 + 3 + 1, 12 * 5 + 4 + 2};
        for (int height = 0; height <= 5; height++) {
            due(wanted[height], x.fill(height));
            int asked = height;
            looks(Edge::crowded, box -> box.fill(asked));
        }
        x = new ClawBox();
        for (int cell = 1; cell < 16; cell++) {
            x.lay(0, cell);
        }
        due(0, x.fill(0));
        due(0, x.fill(1));
        due(15, x.fill(2));

        sentence("FILL for a height. BEYOND.");
        for (int height : new int[] {-1, 6, MIN, MAX}) {
            refused(BEYOND, Edge::rich, box -> box.fill(height));
            refused(BEYOND, ClawBox::new, box -> box.fill(height));
        }
    }
}
