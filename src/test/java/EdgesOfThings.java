/** Edges of promises 1 to 10 and of Term 1: THE BOX, its THINGS, the spring. */
public final class EdgesOfThings extends Edge {

    private static final int[] NO_THINGS = {-1, 10, 16, MIN, MAX};
    private static final int[] NO_PILES = {0, -1, 16, MIN, MAX};

    public static void main(String[] args) {
        newObject();
        helpers();
        cells();
        piles();
        things();
        needsOfKinds();
        needsHeld();
        springs();
        pullsSinceWound();
        pennies();
        lay();
        thingIs();
        as();
        set();
        out();
        back();
        spring();
        wind();
        cellIs();
        end();
    }

    private static void newObject() {
        sentence("All as at first; nothing in it.");
        ClawBox busy = rich();
        ClawBox x = new ClawBox();
        for (int k = 1; k <= 6; k++) {
            due(0, x.told(k));
        }
        int[] first = {0, 0, 0, 60, 60, 1, 0, 0, 0, 0, 0, 1};
        for (int what = 0; what < first.length; what++) {
            due(first[what], x.count(what));
        }
        for (int cell = 0; cell < 16; cell++) {
            due(0, x.cellIs(cell, 0));
            due(-1, x.cellIs(cell, 1));
            due(-1, x.cellIs(cell, 2));
            due(0, x.cellIs(cell, 3));
        }
        due(0, x.told(1) + x.told(2));
        due(BEYOND, x.thingIs(0, 0));
        due(NONE, x.body(0));
        due(NONE, x.restore());
        for (int sheet = 0; sheet < 4; sheet++) {
            due(NONE, x.pulls(sheet));
        }
        due(0, x.untell(0));
        due(0, x.untell(1));
        due(-10, x.text(0));
        due(0, x.check(1));
        due(1, x.image());
        // One object has nothing to do with another.
        due(10, busy.count(0));
        alike(ClawBox::new, ClawBox::new, 0);
    }

    /** The box of these tests must have in it what the tests of refused calls look for. */
    private static void helpers() {
        sentence("one that answers an ERROR changes nothing but what told() tells, or where told.");
        due(0, rich().check(2));
        due(3, rich().count(9));
        due(1, rich().text(0));
        due(1, rich().text(1));
        due(6, rich().count(10));
        due(1, rich().restore());
        due(16, crowded().count(0));
        due(60, taped().count(8));
        due(1, taped().text(0));
        due(24, waited().count(9));
        due(4, numbers(rich(), 0, 3).size());
        // 95 springs hold a 5, and two (3, 4) let it fall.
        due(95002, numbers(rich(), 0, 3).get(0));
        due(0, numbers(rich(), 3, 0).size());
    }

    private static void cells() {
        sentence("THE BOX has CELLS of 4 rows (row 0 in front) and 4 columns: 0 .. 15: 4 times the row and the column");
        for (int cell = 0; cell < 16; cell++) {
            int at = cell;
            looks(Edge::rich, box -> box.cellIs(at, 0));
        }
        for (int cell : new int[] {-1, 16, MIN, MAX}) {
            refused(BEYOND, Edge::rich, x -> x.cellIs(cell, 0));
        }
        for (int row = 0; row < 4; row++) {
            for (int column = row == 0 ? 1 : 0; column < 4; column++) {
                ClawBox x = new ClawBox();
                due(0, x.lay(0, 4 * row + column));
                due(4 * row + column, x.thingIs(0, 3));
                for (int other = 0; other < 4; other++) {
                    due(other == column ? 0 : NONE, x.seen(other, 0));
                }
            }
        }

        sentence("CELL 0 is THE CHUTE. On each CELL but THE CHUTE lies a PILE of THINGS, one on the other, at most 5.");
        for (int cell : new int[] {0, 1, 15}) {
            ClawBox x = new ClawBox();
            due(cell == 0 ? BEYOND : 0, x.lay(0, cell));
            due(cell == 0 ? 0 : 1, x.cellIs(cell, 0));
        }
        ClawBox x = new ClawBox();
        x.lay(0, 1);
        x.lay(0, 4);
        x.spring(0, 11);
        due(0, x.pull(1));
        due(1, x.pull(4));
        due(0, x.cellIs(0, 0));
        due(-1, x.cellIs(0, 1));
        due(-1, x.cellIs(0, 2));
    }

    private static void piles() {
        sentence("at most 5.");
        for (int cell = 1; cell < 16; cell++) {
            ClawBox x = new ClawBox();
            for (int i = 0; i < 5; i++) {
                due(i, x.lay(0, cell));
                due(i + 1, x.cellIs(cell, 0));
                due(i, x.cellIs(cell, 1));
                due(0, x.cellIs(cell, 2));
            }
            due(FULL, x.lay(0, cell));
            due(5, x.cellIs(cell, 0));
            due(4, x.cellIs(cell, 1));
        }
    }

    private static void things() {
        sentence("THINGS 0, 1, .. (at most 16), of KINDS");
        ClawBox x = new ClawBox();
        for (int i = 0; i < 16; i++) {
            due(i, x.lay(i, 1 + i % 15));
        }
        due(FULL, x.lay(0, 15));
        due(16, x.count(0));
        due(1, x.thingIs(15, 3));
        due(BEYOND, x.thingIs(16, 0));
        // Those that are WON or out are THINGS, too.
        x.out(3);
        x.pull(5);
        due(1, x.count(6));
        due(FULL, x.lay(0, 15));
        due(16, x.count(0));

        sentence("with a number m (0 .. 9), WORTH (0 .. 99 pence; 10 at first); in a CELL, or WON, or out (taken by the owner).");
        for (int km = 0; km < 70; km++) {
            x = new ClawBox();
            due(0, x.lay(km, 1));
            due(km / 10, x.thingIs(0, 0));
            due(km % 10, x.thingIs(0, 1));
            due(10, x.thingIs(0, 2));
        }
        for (int v : new int[] {0, 1, 98, 99}) {
            x.set(0, 2, v);
            due(v, x.thingIs(0, 2));
        }
        due(1, x.thingIs(0, 3));
        due(0, x.pull(1));
        due(-1, x.thingIs(0, 3));
        due(1, x.back(0, 15));
        due(15, x.thingIs(0, 3));
        due(15, x.out(0));
        due(-2, x.thingIs(0, 3));
    }

    private static void needs(int due, int km, int on) {
        ClawBox x = new ClawBox();
        x.lay(km, 6);
        lay(x, 9, 6, on);
        due(due, x.thingIs(0, 6));
    }

    private static void needsOfKinds() {
        sentence("THING: 20 and m.");
        needs(20, 0, 0);
        needs(29, 9, 0);
        needs(29, 9, 4);
        sentence("BALL: as THING, and 10.");
        needs(30, 10, 0);
        needs(39, 19, 0);
        needs(39, 19, 4);
        sentence("BEAR: as THING, less 8.");
        needs(12, 20, 0);
        needs(21, 29, 0);
        needs(21, 29, 4);
        sentence("SLIPPERY: twice as THING.");
        needs(40, 30, 0);
        needs(58, 39, 0);
        needs(58, 39, 4);
        sentence("MELON: as BALL, and m.");
        needs(30, 40, 0);
        needs(48, 49, 0);
        needs(48, 49, 4);
        sentence("BLUE: as BEAR, and 2 for each THING on it.");
        for (int on = 0; on <= 4; on++) {
            needs(12 + 2 * on, 50, on);
            needs(21 + 2 * on, 59, on);
        }
        ClawBox x = new ClawBox();
        lay(x, 50, 6, 5);
        for (int thing = 0; thing < 5; thing++) {
            due(12 + 2 * (4 - thing), x.thingIs(thing, 6));
        }
        due(6, x.out(0));
        due(12, x.thingIs(0, 6));
        due(4, x.pull(6));
        due(12, x.thingIs(4, 6));
        due(16, x.thingIs(1, 6));
        sentence("without a TEXT as THING.");
        needs(20, 60, 0);
        needs(29, 69, 0);
        needs(29, 69, 4);
    }

    private static void needsHeld() {
        sentence("TOLD: what NEEDS (a TEXT) gives. (Held within 1 .. 99.)");
        String[] texts = {"0", "1", "2", "98", "99", "100", "9999", "0-1", "0-9999", "256*256*256*128", "256*256*256*128-1"};
        int[] dues = {1, 1, 2, 98, 99, 99, 99, 1, 1, 1, 99};
        for (int i = 0; i < texts.length; i++) {
            ClawBox x = new ClawBox();
            x.lay(60, 1);
            due(1, text(x, 0, texts[i]));
            due(dues[i], x.thingIs(0, 6));
        }
        // Held at 1: STRENGTH 0 does nothing, STRENGTH 1 is enough.
        ClawBox x = new ClawBox();
        x.lay(60, 6);
        text(x, 0, "0-7");
        x.spring(0, 0);
        due(0, x.cellIs(6, 3));
        due(-1, x.pull(6));
        x.wind();
        x.spring(0, 1);
        due(0, x.pull(6));
        // Held at 99: the strongest spring is enough, half of it (50) lets it fall, 49 doesn't.
        x = new ClawBox();
        x.lay(60, 6);
        text(x, 0, "1000");
        x.spring(0, 99);
        due(2, x.cellIs(6, 3));
        x.spring(0, 98);
        due(1, x.cellIs(6, 3));
        x.spring(0, 50);
        due(1, x.cellIs(6, 3));
        x.spring(0, 49);
        due(0, x.cellIs(6, 3));
        // Other KINDS don't ask the TEXT.
        for (int kind = 0; kind < 6; kind++) {
            x.set(0, 0, kind);
            due(new int[] {20, 30, 12, 40, 30, 12}[kind], x.thingIs(0, 6));
        }
    }

    private static void springs() {
        sentence("SPRING (0 .. 99; 60 at first), WEAKER (0 .. 9; 1 at first)");
        ClawBox x = new ClawBox();
        due(60, x.count(4));
        due(1, x.count(5));
        due(60, x.spring(0, 0));
        due(0, x.spring(0, 99));
        due(99, x.count(4));
        due(1, x.spring(1, 0));
        due(0, x.spring(1, 9));
        due(9, x.count(5));

        sentence("STRENGTH: SPRING less PULLS times WEAKER (0 at least).");
        x = new ClawBox();
        x.spring(0, 10);
        x.spring(1, 5);
        int[] strengths = {10, 5, 0, 0, 0};
        for (int strength : strengths) {
            due(strength, x.count(3));
            x.pull(15);
        }
        x.wind();
        x.spring(0, 99);
        x.spring(1, 9);
        for (int pulls = 0; pulls <= 13; pulls++) {
            due(Math.max(0, 99 - 9 * pulls), x.count(3));
            x.pull(15);
        }
        x.spring(1, 0);
        due(99, x.count(3));
        x.wind();
        x.spring(0, 0);
        due(0, x.count(3));
    }

    private static void pullsSinceWound() {
        sentence("PULLS since it was wound (0 at first; 9999 at most).");
        ClawBox x = new ClawBox();
        due(0, x.count(2));
        x.spring(1, 0);
        for (int i = 0; i < 166; i++) {
            x.draws(60);
        }
        x.draws(38);
        due(9998, x.count(2));
        x.pull(3);
        due(9999, x.count(2));
        x.pull(3);
        due(9999, x.count(2));
        row(x, 0, 3, 3);
        due(2, x.pulls(0));
        due(9999, x.count(2));
        x.draws(60);
        due(9999, x.count(2));
        due(10062, x.count(1));
        due(60, x.count(3));
        x.spring(1, 1);
        due(0, x.count(3));
        x.lay(0, 3);
        x.lay(0, 3);
        // Nothing is won ahead when there is no strength any more, and the look ahead ends at 9999, too.
        due(NONE, x.fewest(0, 3, -1));
        due(0, x.game(3, 0));
        due(0, x.odds(0, 0));
        due(9999, x.wind());
        due(0, x.count(2));
        due(60, x.count(3));
    }

    private static void pennies() {
        // 512 calls come to 30720 PENNIES at most, so 99999 is never reached; no bound may stand below.
        sentence("PENNIES (0 at first; 99999 at most).");
        ClawBox x = new ClawBox();
        due(0, x.count(1));
        for (int i = 0; i < 508; i++) {
            x.draws(60);
        }
        due(30480, x.count(1));
        due(9999, x.wind());
        due(30480, x.count(1));
    }

    private static void lay() {
        sentence("A THING is laid uppermost in a CELL (not THE CHUTE): its number.");
        for (int cell : NO_PILES) {
            refused(BEYOND, Edge::rich, x -> x.lay(0, cell));
            refused(BEYOND, ClawBox::new, x -> x.lay(0, cell));
        }
        ClawBox x = rich();
        due(10, x.lay(9, 5));
        due(10, x.cellIs(5, 1));
        due(3, x.thingIs(10, 4));
        due(0, x.thingIs(10, 5));
        due(11, x.lay(9, 15));
        due(11, x.cellIs(15, 1));
        due(12, x.lay(9, 1));

        sentence("km: 10 times the KIND, and m. BEYOND.");
        for (int km : new int[] {-1, -10, 70, 79, 100, MIN, MAX}) {
            refused(BEYOND, Edge::rich, box -> box.lay(km, 1));
            refused(BEYOND, ClawBox::new, box -> box.lay(km, 15));
        }

        sentence("FULL: 16 THINGS, 5 in the PILE.");
        refused(FULL, Edge::piled, box -> box.lay(0, 13));
        refused(FULL, Edge::crowded, box -> box.lay(0, 13));
        refused(FULL, Edge::crowded, box -> box.lay(69, 1));
        refused(FULL, Edge::crowded, box -> box.lay(0, 15));
        due(15, piled().lay(0, 12));
        // Room in the PILE again.
        x = piled();
        due(13, x.out(10));
        due(15, x.lay(0, 13));
        due(5, x.cellIs(13, 0));
        due(15, x.cellIs(13, 1));

        sentence("Each act tells its ERRORS in the order in which they are asked");
        refused(BEYOND, Edge::piled, box -> box.lay(70, 13));
        refused(BEYOND, Edge::piled, box -> box.lay(-1, 13));
        refused(BEYOND, Edge::crowded, box -> box.lay(0, 0));
        refused(BEYOND, Edge::crowded, box -> box.lay(0, 16));
        refused(BEYOND, Edge::crowded, box -> box.lay(70, 1));
    }

    private static void thingIs() {
        sentence("Of a THING: 0 KIND, 1 m, 2 WORTH, 3 CELL (-1 WON, -2 out), 4 how many lie under it, 5 on it");
        for (int thing : NO_THINGS) {
            refused(BEYOND, Edge::rich, x -> x.thingIs(thing, 0));
        }
        refused(BEYOND, ClawBox::new, x -> x.thingIs(0, 0));
        refused(BEYOND, Edge::crowded, x -> x.thingIs(16, 7));
        for (int what : new int[] {-1, 8, MIN, MAX}) {
            refused(BEYOND, Edge::rich, x -> x.thingIs(9, what));
            refused(BEYOND, Edge::rich, x -> x.thingIs(0, what));
        }
        for (int what = 0; what <= 7; what++) {
            int asked = what;
            looks(Edge::rich, x -> x.thingIs(0, asked));
            looks(Edge::rich, x -> x.thingIs(8, asked));
            looks(Edge::crowded, x -> x.thingIs(15, asked));
        }
        ClawBox x = new ClawBox();
        lay(x, 0, 15, 5);
        for (int thing = 0; thing < 5; thing++) {
            due(15, x.thingIs(thing, 3));
            due(thing, x.thingIs(thing, 4));
            due(4 - thing, x.thingIs(thing, 5));
        }
        x.lay(0, 1);
        due(1, x.thingIs(5, 3));
        due(0, x.thingIs(5, 4));
        due(0, x.thingIs(5, 5));

        sentence("(4, 5: -1 if in no CELL), 6 NEEDS, 7 LIKES. BEYOND.");
        x = rich();
        int[] won = {0, 0, 10, -1, -1, -1, 20, 20};
        int[] out = {1, 9, 10, -2, -1, -1, 39, 28};
        for (int what = 0; what <= 7; what++) {
            due(won[what], x.thingIs(8, what));
            due(out[what], x.thingIs(9, what));
        }
    }

    private static void as() {
        sentence("0 THING, 1 BALL under THING, 2 BEAR under THING, 3 SLIPPERY under THING, 4 MELON under BALL, 5 BLUE under BEAR, 6 TOLD under THING;");
        int[] above = {-1, 0, 0, 0, 1, 2, 0};
        for (int kind = 0; kind < 7; kind++) {
            ClawBox x = new ClawBox();
            x.lay(10 * kind, 1);
            for (int as = 0; as < 7; as++) {
                boolean is = as == kind || as == 0 || as == above[kind];
                due(is ? 10 : KIND, x.as(0, as));
            }
        }
        sentence("A THING as one of a KIND: WORTH. BEYOND. KIND: it is not of that KIND, nor of one under it.");
        for (int thing : NO_THINGS) {
            refused(BEYOND, Edge::rich, x -> x.as(thing, 0));
        }
        for (int kind : new int[] {-1, 7, MIN, MAX}) {
            refused(BEYOND, Edge::rich, x -> x.as(0, kind));
            refused(BEYOND, Edge::rich, x -> x.as(10, kind));
        }
        // THINGS 2, 3, 4, 5, 6, 1, 0 are of KINDS 0 .. 6. Each row tells as which KINDS (its bits) one can stand.
        int[] ofKind = {2, 3, 4, 5, 6, 1, 0};
        int[] stands = {0b1, 0b11, 0b101, 0b1001, 0b10011, 0b100101, 0b1000001};
        for (int kind = 0; kind < 7; kind++) {
            for (int as = 0; as < 7; as++) {
                int thing = ofKind[kind];
                int asked = as;
                if ((stands[kind] >> as & 1) != 0) {
                    due(10, rich().as(thing, as));
                    looks(Edge::rich, x -> x.as(thing, asked));
                } else {
                    refused(KIND, Edge::rich, x -> x.as(thing, asked));
                }
            }
        }
        // In no CELL, too; and WORTH at its bounds.
        due(10, rich().as(8, 0));
        due(10, rich().as(9, 1));
        due(99, rich().as(7, 0));
        ClawBox x = rich();
        x.set(0, 2, 0);
        due(0, x.as(0, 6));

        sentence("Each act tells its ERRORS in the order in which they are asked");
        refused(BEYOND, Edge::rich, box -> box.as(0, 7));
        refused(BEYOND, Edge::rich, box -> box.as(10, 1));
    }

    private static void set() {
        sentence("KIND (what 0), m (1), WORTH (2) of a THING becomes v: what it was. BEYOND.");
        int[] most = {6, 9, 99};
        for (int what = 0; what < 3; what++) {
            int asked = what;
            int first = most[what] + 1;
            for (int v : new int[] {-1, first, MIN, MAX}) {
                refused(BEYOND, Edge::rich, x -> x.set(0, asked, v));
                refused(BEYOND, Edge::rich, x -> x.set(9, asked, v));
            }
            for (int thing = 0; thing < 10; thing++) {
                int at = thing;
                ClawBox x = rich();
                int was = x.thingIs(thing, what);
                due(was, x.set(thing, what, 0));
                due(0, x.set(thing, what, most[what]));
                due(most[what], x.set(thing, what, 1));
                due(1, x.thingIs(thing, what));
                alike(Edge::rich, after(Edge::rich, box -> box.set(at, asked, 1) + box.set(at, asked, was)), 0);
            }
        }
        for (int what : new int[] {-1, 3, MIN, MAX}) {
            refused(BEYOND, Edge::rich, x -> x.set(0, what, 0));
            refused(BEYOND, Edge::rich, x -> x.set(0, what, 1));
        }
        for (int thing : NO_THINGS) {
            refused(BEYOND, Edge::rich, x -> x.set(thing, 0, 0));
            refused(BEYOND, Edge::rich, x -> x.set(thing, 2, 0));
        }
        refused(BEYOND, ClawBox::new, x -> x.set(0, 0, 0));
        refused(BEYOND, Edge::crowded, x -> x.set(16, 1, 0));
        due(8, crowded().set(15, 1, 0));
    }

    private static void out() {
        sentence("The owner takes a THING out of its PILE (those on it come down): the CELL where it was.");
        for (int taken = 0; taken < 5; taken++) {
            ClawBox x = new ClawBox();
            lay(x, 0, 15, 5);
            due(15, x.out(taken));
            due(-2, x.thingIs(taken, 3));
            due(4, x.cellIs(15, 0));
            due(taken == 4 ? 3 : 4, x.cellIs(15, 1));
            due(taken == 0 ? 1 : 0, x.cellIs(15, 2));
            for (int thing = 0; thing < 5; thing++) {
                int under = thing > taken ? thing - 1 : thing;
                if (thing != taken) {
                    due(15, x.thingIs(thing, 3));
                    due(under, x.thingIs(thing, 4));
                    due(3 - under, x.thingIs(thing, 5));
                    due(thing, x.seen(3, under));
                }
            }
            due(NONE, x.seen(3, 4));
            due(0, x.count(6));
        }
        ClawBox x = new ClawBox();
        x.lay(0, 1);
        due(1, x.out(0));
        due(0, x.cellIs(1, 0));
        due(-1, x.cellIs(1, 1));
        due(-1, x.cellIs(1, 2));

        sentence("BEYOND. STATE: it is in no CELL.");
        for (int thing : NO_THINGS) {
            refused(BEYOND, Edge::rich, box -> box.out(thing));
        }
        refused(BEYOND, ClawBox::new, box -> box.out(0));
        refused(STATE, Edge::rich, box -> box.out(8));
        refused(STATE, Edge::rich, box -> box.out(9));
    }

    private static void back() {
        sentence("The owner lays one that is WON or out uppermost in a CELL: how many lie there then.");
        for (int thing : new int[] {8, 9}) {
            for (int cell : new int[] {1, 5, 15}) {
                ClawBox x = rich();
                int lay = x.cellIs(cell, 0);
                due(lay + 1, x.back(thing, cell));
                due(thing, x.cellIs(cell, 1));
                due(cell, x.thingIs(thing, 3));
                due(lay, x.thingIs(thing, 4));
                due(0, x.thingIs(thing, 5));
            }
            for (int cell : NO_PILES) {
                refused(BEYOND, Edge::rich, x -> x.back(thing, cell));
            }
        }
        for (int thing : NO_THINGS) {
            refused(BEYOND, Edge::rich, x -> x.back(thing, 1));
        }
        refused(BEYOND, ClawBox::new, x -> x.back(0, 1));
        ClawBox x = piled();
        x.out(14);
        due(5, x.back(14, 13));

        sentence("STATE: it is in a CELL. FULL.");
        refused(STATE, Edge::rich, box -> box.back(7, 1));
        refused(STATE, Edge::rich, box -> box.back(7, 15));
        refused(FULL, Edge::piled, box -> box.back(8, 13));
        refused(FULL, Edge::piled, box -> box.back(9, 13));
        // 16 THINGS are no hindrance: it is one of them.
        due(1, crowded().back(8, 1));

        sentence("Each act tells its ERRORS in the order in which they are asked");
        refused(BEYOND, Edge::rich, box -> box.back(7, 0));
        refused(BEYOND, Edge::rich, box -> box.back(7, 16));
        refused(BEYOND, Edge::piled, box -> box.back(15, 13));
        refused(STATE, Edge::piled, box -> box.back(7, 13));
        refused(STATE, Edge::piled, box -> box.back(10, 13));
    }

    private static void spring() {
        sentence("SPRING (what 0), WEAKER (1) becomes v: what it was. BEYOND.");
        for (int v : new int[] {-1, 100, MIN, MAX}) {
            refused(BEYOND, Edge::rich, x -> x.spring(0, v));
        }
        for (int v : new int[] {-1, 10, MIN, MAX}) {
            refused(BEYOND, Edge::rich, x -> x.spring(1, v));
        }
        for (int what : new int[] {-1, 2, MIN, MAX}) {
            refused(BEYOND, Edge::rich, x -> x.spring(what, 0));
            refused(BEYOND, Edge::rich, x -> x.spring(what, 5));
        }
        ClawBox x = rich();
        due(37, x.spring(0, 0));
        due(0, x.spring(0, 99));
        due(99, x.spring(0, 37));
        due(3, x.spring(1, 0));
        due(0, x.spring(1, 9));
        due(9, x.spring(1, 3));
        alike(Edge::rich, after(Edge::rich, box -> box.spring(0, 37) + box.spring(1, 3)), 0);
        // PULLS stay as they are.
        due(2, x.count(2));
        due(31, x.count(3));
    }

    private static void wind() {
        sentence("The spring is wound (PULLS 0): how many PULLS there were.");
        ClawBox x = new ClawBox();
        due(0, x.wind());
        x.pull(1);
        due(1, x.wind());
        due(0, x.wind());
        x = rich();
        due(2, x.wind());
        due(0, x.count(2));
        due(37, x.count(3));
        due(2, x.count(1));
        due(37, x.count(4));
        due(3, x.count(5));
    }

    private static void cellIs() {
        sentence("Of a CELL: 0 how many lie there, 1 the uppermost THING (-1: none), 2 the undermost (-1)");
        for (int what : new int[] {-1, 4, MIN, MAX}) {
            refused(BEYOND, Edge::rich, x -> x.cellIs(5, what));
            refused(BEYOND, Edge::rich, x -> x.cellIs(0, what));
        }
        for (int cell : new int[] {-1, 16, MIN, MAX}) {
            for (int what = 0; what < 4; what++) {
                int asked = what;
                refused(BEYOND, Edge::rich, x -> x.cellIs(cell, asked));
            }
        }
        int[][] dues = {{0, -1, -1, 0}, {0, -1, -1, 0}, {2, 4, 3, 2}, {0, -1, -1, 0}, {0, -1, -1, 0}, {3, 2, 0, 2}};
        for (int cell = 0; cell < dues.length; cell++) {
            for (int what = 0; what < 4; what++) {
                int at = cell;
                int asked = what;
                due(dues[cell][what], rich().cellIs(cell, what));
                looks(Edge::rich, x -> x.cellIs(at, asked));
            }
        }

        sentence("3 what a PULL would do now (0 nothing, it stays; 1 let fall, 2 WON, 3 falls back). BEYOND.");
        ClawBox x = new ClawBox();
        x.lay(0, 2);
        x.lay(0, 4);
        due(0, x.cellIs(15, 3));
        int[] springs = {20, 19, 10, 9, 0};
        int[] atTwo = {2, 1, 1, 0, 0};
        int[] atFour = {2, 2, 2, 0, 0};
        for (int i = 0; i < springs.length; i++) {
            x.spring(0, springs[i]);
            due(atTwo[i], x.cellIs(2, 3));
            due(atFour[i], x.cellIs(4, 3));
        }
        lay(x, 0, 1, 4);
        x.spring(0, 19);
        due(1, x.cellIs(2, 3));
        x.lay(0, 1);
        due(3, x.cellIs(2, 3));
        x.spring(0, 10);
        due(3, x.cellIs(2, 3));
        x.spring(0, 9);
        due(0, x.cellIs(2, 3));
        x.spring(0, 20);
        due(2, x.cellIs(2, 3));
    }
}
