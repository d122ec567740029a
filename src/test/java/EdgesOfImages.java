import java.util.List;

/** Edges of promises 32 to 37, of the ERRORS and of the 512 calls: images, what waits, what is counted and told. */
public final class EdgesOfImages extends Edge {

    public static void main(String[] args) {
        image();
        imageLeavesOut();
        restore();
        tell();
        check();
        checkErrors();
        count();
        countErrors();
        told();
        toldErrors();
        errorNumbers();
        noErrors();
        calls();
        end();
    }

    private static void image() {
        sentence("is kept as an IMAGE, in place of one ahead: how often that was done.");
        ClawBox x = new ClawBox();
        for (int i = 1; i <= 300; i++) {
            due(i, x.image());
        }
        due(0, x.restore());
        due(301, x.image());
        // The empty box can be kept, too, and all of it comes back.
        Setup emptied = () -> {
            ClawBox box = new ClawBox();
            box.image();
            fillUp(box);
            box.restore();
            return box;
        };
        Setup kept = after(ClawBox::new, box -> box.image());
        alike(kept, emptied, 0);
        // The full one.
        Setup full = () -> {
            ClawBox box = new ClawBox();
            fillUp(box);
            box.image();
            return box;
        };
        alike(full, () -> {
            ClawBox box = full.box();
            unfill(box);
            box.restore();
            return box;
        }, 0);
        due(16, full.box().count(0));
        due(60, full.box().count(8));
        due(24, full.box().count(9));
        // The one ahead is gone.
        x = new ClawBox();
        x.seed(5);
        due(1, x.image());
        x.seed(6);
        due(2, x.image());
        x.seed(7);
        due(0, x.restore());
        due(6, x.count(11));
        looks(() -> {
            ClawBox box = rich();
            box.image();
            return box;
        }, box -> box.restore());
    }

    /** All that an IMAGE keeps, as full as it can be. */
    private static void fillUp(ClawBox x) {
        for (int i = 0; i < 16; i++) {
            x.lay(69 - i, 1 + i / 5);
            x.set(i, 2, 99 - i);
        }
        text(x, 0, "m+o+u+c+9");
        text(x, 1, "w-k*m");
        feed(x, times("1+", 29) + "12");
        for (int i = 0; i < 24; i++) {
            x.tell(i % 4);
        }
        x.spring(0, 99);
        x.spring(1, 0);
        x.seed(MIN);
        x.pull(4);
        x.out(0);
    }

    private static void unfill(ClawBox x) {
        x.set(1, 0, 0);
        x.set(2, 1, 0);
        x.set(3, 2, 0);
        x.out(6);
        x.back(0, 15);
        x.pull(2);
        x.untell(0);
        x.text(1);
        x.check(5);
        x.tell(7);
        x.spring(0, 3);
        x.spring(1, 4);
        x.draws(3);
        x.wind();
    }

    private static void imageLeavesOut() {
        sentence("All (but SHEETS, THE TRACE, what told() tells, and how often this was done)");
        ClawBox x = rich();
        x.image();
        x.sheet(3, 32, 1);
        x.put(3, 0, 5);
        x.put(0, 0, 15);
        x.sheet(2, 0, 0);
        x.voice(0, 0, 7);
        int told = x.told(1);
        x.pull(0);
        x.pull(16);
        due(2, x.restore());
        due(1, x.pulls(3));
        due(NONE, x.judge(2, 5));
        // Number 0 of SHEET 0 is 15 still, where THING 7 is WON; then CELLS 2, 9, 5.
        due(4, x.pulls(0));
        due(-1, x.thingIs(7, 3));
        due(1, x.count(10));
        due(70, x.body(0));
        due(told + 2, x.told(1));
        due(3, x.image());

        // image() itself changes nothing but the IMAGE.
        for (int part = 0; part < PARTS; part++) {
            List<Long> got = read(after(Edge::rich, box -> box.image()).box(), part);
            if (part < IMAGES || part >= SHEETS_ON) {
                due(1, read(rich(), part).equals(got) ? 1 : 0);
            }
        }
        due(2, after(Edge::rich, box -> box.image()).box().restore());
    }

    private static void restore() {
        sentence("All is as the IMAGE has it, which stays: PENNIES. NONE: there is none.");
        refused(NONE, ClawBox::new, x -> x.restore());
        refused(NONE, () -> {
            ClawBox x = new ClawBox();
            fillUp(x);
            return x;
        }, x -> x.restore());
        ClawBox x = new ClawBox();
        x.draws(60);
        x.image();
        x.draws(60);
        for (int i = 0; i < 5; i++) {
            due(60, x.restore());
            due(60, x.count(1));
            due(60, x.count(2));
            x.draws(60);
            x.wind();
        }
        due(2, x.image());
        due(120, x.restore());
    }

    private static void tell() {
        sentence("One more number waits: how many. FULL: 24 wait.");
        ClawBox x = new ClawBox();
        for (int i = 1; i <= 24; i++) {
            due(i, x.tell(i % 2 == 0 ? MIN : MAX));
            due(i, x.count(9));
        }
        due(FULL, x.tell(0));
        due(24, x.count(9));
        refused(FULL, Edge::waited, box -> box.tell(0));
        refused(FULL, Edge::waited, box -> box.tell(MIN));
        x.check(1);
        due(1, x.tell(0));
        // The 24th counts: the first 23 are so, it isn't.
        x = new ClawBox();
        for (int i = 0; i < 23; i++) {
            x.tell(0);
        }
        due(24, x.tell(1));
        due(24, x.check(15));
    }

    private static void check() {
        sentence("The numbers that wait (none do then) are what PULLS at a CELL, one behind the other, would do (as in cellIs(), what 3): 0; else 1 and the place of the first that isn't so.");
        due(0, new ClawBox().check(1));
        due(0, new ClawBox().check(15));
        int[] would = {2, 1, 1, 3, 3, 3, 0};
        for (int n = 0; n <= would.length; n++) {
            for (int wrong = 0; wrong <= n; wrong++) {
                for (int v : new int[] {-1, 0, 1, 2, 3, 4, MIN, MAX}) {
                    ClawBox x = pile();
                    for (int i = 0; i < n; i++) {
                        x.tell(i == wrong ? v : would[i]);
                    }
                    boolean isWrong = wrong < n && v != would[wrong];
                    due(isWrong ? 1 + wrong : 0, x.check(6));
                    due(0, x.count(9));
                }
            }
        }
        // All 24.
        ClawBox x = new ClawBox();
        for (int i = 0; i < 24; i++) {
            x.tell(0);
        }
        due(0, x.check(1));
        // Into THE CHUTE is WON.
        x = new ClawBox();
        x.lay(0, 4);
        x.spring(0, 10);
        tell(x, 2, 0);
        due(0, x.check(4));

        sentence("Nothing else changes.");
        for (int cell : new int[] {1, 2, 5, 6, 15}) {
            onlyWaitsNoMore(cell, 0);
        }
        looks(ClawBox::new, box -> box.check(1));
        looks(after(Edge::rich, box -> box.check(3)), box -> box.check(5));
    }

    /** By check() nothing changes but that no number waits any more, and what told() tells (ERROR LOW - k; 0: none). */
    private static void onlyWaitsNoMore(int cell, int k) {
        Setup checked = after(Edge::rich, box -> box.check(cell));
        for (int part = 0; part < PARTS; part++) {
            List<Long> dues = read(rich(), part);
            if (part == TOLD && k > 0) {
                dues.set(k - 1, dues.get(k - 1) + 1);
            }
            if (part == COUNTS) {
                due(3, dues.set(9, 0L));
            }
            if (part > COUNTS) {
                dues.set(0, 0L);
            }
            due(1, dues.equals(read(checked.box(), part)) ? 1 : 0);
        }
    }

    /** A pile in CELL 6 that does 2, 1, 1, 3, 3, 3, 0: a held one, two let fall, then CELL 5 is full until it is too weak. */
    private static ClawBox pile() {
        ClawBox x = new ClawBox();
        x.lay(60, 6);
        x.lay(62, 6);
        x.lay(63, 6);
        x.lay(64, 6);
        lay(x, 39, 5, 3);
        text(x, 0, "(m=4)*60+(m=3)*90+(m=2)*90+(m=0)*99");
        x.spring(0, 60);
        x.spring(1, 2);
        return x;
    }

    private static void checkErrors() {
        sentence("BEYOND (none wait then, too): also THE CHUTE.");
        for (int cell : new int[] {0, -1, 16, MIN, MAX}) {
            due(BEYOND, rich().check(cell));
            onlyWaitsNoMore(cell, 1);
            refused(BEYOND, ClawBox::new, x -> x.check(cell));
            ClawBox x = rich();
            x.check(cell);
            due(1, x.tell(5));
        }
    }

    private static void count() {
        sentence("0 THINGS, 1 PENNIES, 2 PULLS, 3 STRENGTH, 4 SPRING, 5 WEAKER, 6 how many are WON, 7 WORTH of these, 8 bytes of THE TAPE, 9 numbers that wait, 10 BODIES in THE TRACE, 11 z (any number).");
        int[] dues = {10, 2, 2, 31, 37, 3, 1, 10, 3, 3, 6, 12345};
        for (int what = 0; what < dues.length; what++) {
            int asked = what;
            due(dues[what], rich().count(what));
            looks(Edge::rich, x -> x.count(asked));
        }
        // All 16 WON, at the most that they can be WORTH, and at the least.
        ClawBox x = new ClawBox();
        x.spring(0, 99);
        x.spring(1, 0);
        for (int i = 0; i < 16; i++) {
            x.lay(0, 1 + i % 15);
            x.set(i, 2, 99);
        }
        due(0, x.count(6));
        due(0, x.count(7));
        for (int i = 0; i < 16; i++) {
            x.pull(1 + i % 15);
            due(1 + i, x.count(6));
            due(99 * (1 + i), x.count(7));
        }
        for (int i = 0; i < 16; i++) {
            x.set(i, 2, 0);
        }
        due(16, x.count(6));
        due(0, x.count(7));
        // LIKES don't matter, nor those that are out.
        text(x, 1, "999");
        due(0, x.count(7));
        x.back(0, 1);
        due(15, x.count(6));
        x.out(0);
        due(15, x.count(6));
        x.set(0, 2, 7);
        due(0, x.count(7));
        due(16, x.count(0));
    }

    private static void countErrors() {
        sentence("11 z (any number). BEYOND.");
        for (int what : new int[] {-1, 12, MIN, MAX}) {
            refused(BEYOND, Edge::rich, x -> x.count(what));
            refused(BEYOND, ClawBox::new, x -> x.count(what));
        }
        ClawBox x = new ClawBox();
        for (int z : new int[] {MIN, MAX, BEYOND, PARTED, LOW}) {
            x.seed(z);
            due(z, x.count(11));
        }
        due(0, x.told(1) + x.told(6));
    }

    private static void told() {
        sentence("How many acts have answered an ERROR LOW - k (k 1 .. 6);");
        ClawBox x = new ClawBox();
        lay(x, 1, 1, 5);
        for (int i = 1; i <= 9; i++) {
            due(BEYOND, x.pull(0));
            due(i, x.told(1));
            due(NONE, x.restore());
            due(i, x.told(2));
            due(STATE, x.back(0, 1));
            due(i, x.told(3));
            due(FULL, x.lay(0, 1));
            due(i, x.told(4));
            due(KIND, x.as(0, 1));
            due(i, x.told(5));
            due(PARTED, x.voice(1, 3, 1));
            due(i, x.told(6));
            x.sheet(0, 8, 0);
        }
        for (int k = 1; k <= 6; k++) {
            due(9, x.told(k));
            int asked = k;
            looks(Edge::rich, box -> box.told(asked));
        }
    }

    private static void toldErrors() {
        sentence("BEYOND: another k (counted, too).");
        for (int k : new int[] {0, 7, -1, LOW - 1, MIN, MAX}) {
            refused(BEYOND, Edge::rich, x -> x.told(k));
            ClawBox x = new ClawBox();
            due(BEYOND, x.told(k));
            due(1, x.told(1));
            due(BEYOND, x.told(k));
            due(2, x.told(1));
            for (int other = 2; other <= 6; other++) {
                due(0, x.told(other));
            }
        }
    }

    private static void errorNumbers() {
        sentence("ERRORS are answers below -1000000000: LOW is -1000000000; LOW - 1 BEYOND, LOW - 2 NONE, LOW - 3 STATE, LOW - 4 FULL, LOW - 5 KIND, LOW - 6 PARTED (in longs, too).");
        ClawBox x = new ClawBox();
        lay(x, 1, 1, 5);
        due(-1000000001, x.lay(0, 0));
        due(-1000000002, x.restore());
        due(-1000000003, x.back(0, 2));
        due(-1000000004, x.lay(0, 1));
        due(-1000000005, x.as(0, 2));
        due(-1000000006, x.voice(1, 3, 0));
        due(-1000000001L, x.odds(0, 2));
        due(-1000000002L, x.odds(0, 1));
    }

    private static void noErrors() {
        sentence("-10 less the FAULT (no ERROR;");
        ClawBox x = new ClawBox();
        x.text(0);
        text(x, 1, "?");
        x.text(1);
        sentence("up to the first number that pull() would refuse (no ERROR then).");
        row(x, 0, 0);
        x.pulls(0);
        x.haul(0);
        row(x, 0, 16, 1);
        x.pulls(0);
        x.haul(0);
        for (int k = 1; k <= 6; k++) {
            due(0, x.told(k));
        }
    }

    private static void calls() {
        sentence("An object is used for at most 512 calls after it has been made; what later calls answer is free.");
        ClawBox x = new ClawBox();
        for (int i = 1; i <= 511; i++) {
            due(-1, x.pull(1));
        }
        due(511, x.count(1));
        x = new ClawBox();
        for (int i = 1; i <= 511; i++) {
            x.told(0);
        }
        due(511, x.told(1));
        x = new ClawBox();
        for (int i = 1; i <= 512; i++) {
            due(i, x.image());
        }
    }
}
