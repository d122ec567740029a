/** Edges of promises 26 and 27 and of Term 4: VOICES, BODIES, THE TRACE. */
public final class EdgesOfVoices extends Edge {

    private static final int LIES = 0;
    private static final int ROLLS = 1;
    private static final int FALLS = 2;
    private static final int PARTS = 3;

    public static void main(String[] args) {
        ofThing();
        ofBall();
        ofBear();
        ofSlippery();
        ofMelon();
        ofBlue();
        ofTold();
        found();
        wraps();
        cut();
        parted();
        trace();
        errors();
        end();
    }

    /** A box in which the last THING, number k, is of that KIND with that m. */
    private static ClawBox box(int kind, int k, int m) {
        ClawBox x = new ClawBox();
        for (int i = 0; i <= k; i++) {
            x.lay(10 * kind + m, 1 + i % 15);
        }
        return x;
    }

    /** What the THING says, and by which BODIES, as they began. */
    private static void says(ClawBox x, int voice, int with, int answer, int... bodies) {
        int k = x.count(0) - 1;
        due(answer, x.voice(k, voice, with));
        due(bodies.length, x.count(10));
        for (int i = 0; i < bodies.length; i++) {
            due(bodies[i], x.body(i));
        }
        due(NONE, x.body(bodies.length));
    }

    private static void ofThing() {
        sentence("BODIES: THING: 10 lies: x + k. 11 rolls: lies(x) * 2. 12 falls: rolls(x) - m.");
        for (int k : new int[] {0, 1, 15}) {
            for (int m : new int[] {0, 9}) {
                for (int with : new int[] {0, 7, -7}) {
                    says(box(0, k, m), LIES, with, with + k, 10);
                    says(box(0, k, m), ROLLS, with, (with + k) * 2, 11, 10);
                    says(box(0, k, m), FALLS, with, (with + k) * 2 - m, 12, 11, 10);
                }
            }
        }
        sentence("13 parts: x by (m - k), cut");
        says(box(0, 0, 1), PARTS, 7, 7, 13);
        says(box(0, 0, 2), PARTS, 7, 3, 13);
        says(box(0, 0, 2), PARTS, -7, -3, 13);
        says(box(0, 2, 0), PARTS, 7, -3, 13);
        says(box(0, 2, 0), PARTS, -7, 3, 13);
        says(box(0, 0, 9), PARTS, 8, 0, 13);
        says(box(0, 0, 9), PARTS, 9, 1, 13);
        says(box(0, 0, 9), PARTS, -9, -1, 13);
        says(box(0, 15, 0), PARTS, 15, -1, 13);
        says(box(0, 15, 0), PARTS, 14, 0, 13);
        says(box(0, 15, 9), PARTS, -13, 2, 13);
    }

    private static void ofBall() {
        sentence("BALL: 20 lies: super.lies(x) - 3. 21 parts: super.parts(x) + rolls(1).");
        says(box(1, 0, 1), LIES, 3, 0, 20, 10);
        says(box(1, 15, 1), LIES, 0, 12, 20, 10);
        says(box(1, 2, 1), ROLLS, 7, 12, 11, 20, 10);
        says(box(1, 2, 9), FALLS, 7, 3, 12, 11, 20, 10);
        says(box(1, 0, 2), PARTS, 7, 3 - 4, 21, 13, 11, 20, 10);
        says(box(1, 2, 0), PARTS, 7, -3 + 0, 21, 13, 11, 20, 10);
        says(box(1, 15, 9), PARTS, 0, 26, 21, 13, 11, 20, 10);
    }

    private static void ofBear() {
        sentence("BEAR: 30 rolls: 0 - super.rolls(x).");
        says(box(2, 3, 1), LIES, 7, 10, 10);
        says(box(2, 3, 1), ROLLS, 7, -20, 30, 11, 10);
        says(box(2, 3, 1), ROLLS, -3, 0, 30, 11, 10);
        says(box(2, 3, 9), FALLS, 7, -29, 12, 30, 11, 10);
        says(box(2, 3, 1), PARTS, 7, -3, 13);
    }

    private static void ofSlippery() {
        sentence("SLIPPERY: 40 falls: super.falls(x / 2).");
        says(box(3, 0, 0), LIES, 7, 7, 10);
        says(box(3, 0, 0), ROLLS, 7, 14, 11, 10);
        says(box(3, 0, 0), FALLS, 7, 6, 40, 12, 11, 10);
        says(box(3, 0, 0), FALLS, -7, -6, 40, 12, 11, 10);
        says(box(3, 0, 0), FALLS, 1, 0, 40, 12, 11, 10);
        says(box(3, 0, 0), FALLS, -1, 0, 40, 12, 11, 10);
        says(box(3, 1, 9), FALLS, 8, 1, 40, 12, 11, 10);
        says(box(3, 1, 9), PARTS, 8, 1, 13);
    }

    private static void ofMelon() {
        sentence("MELON: 50 lies: super.lies(x) * 3. 51 falls: super.falls(x) ^ k.");
        says(box(4, 2, 0), LIES, 7, 18, 50, 20, 10);
        says(box(4, 2, 0), ROLLS, 7, 36, 11, 50, 20, 10);
        says(box(4, 0, 5), FALLS, 7, 19, 51, 12, 11, 50, 20, 10);
        says(box(4, 15, 0), FALLS, 0, 72 ^ 15, 51, 12, 11, 50, 20, 10);
        says(box(4, 15, 9), FALLS, -15, -27 ^ 15, 51, 12, 11, 50, 20, 10);
        says(box(4, 2, 4), PARTS, 7, 3 + 0, 21, 13, 11, 50, 20, 10);
        says(box(4, 3, 1), PARTS, 7, -3 + 6, 21, 13, 11, 50, 20, 10);
    }

    private static void ofBlue() {
        sentence("BLUE: 60 rolls: super.rolls(x + 1).");
        says(box(5, 2, 0), LIES, 7, 9, 10);
        says(box(5, 2, 0), ROLLS, 7, -20, 60, 30, 11, 10);
        says(box(5, 2, 9), FALLS, 7, -29, 12, 60, 30, 11, 10);
        says(box(5, 2, 9), PARTS, 7, 1, 13);
        says(box(5, 2, 0), ROLLS, -3, 0, 60, 30, 11, 10);
    }

    private static void ofTold() {
        sentence("TOLD: 70 lies: 4. 71 rolls: super.rolls(x) + m.");
        for (int k : new int[] {0, 15}) {
            for (int m : new int[] {0, 9}) {
                says(box(6, k, m), LIES, 1000, 4, 70);
                says(box(6, k, m), ROLLS, 1000, 8 + m, 71, 11, 70);
                says(box(6, k, m), FALLS, 1000, 8, 12, 71, 11, 70);
            }
        }
        says(box(6, 0, 9), PARTS, 1000, 111, 13);
    }

    /** Each KIND's row: the BODY that a VOICE begins with, as lies(..) finds it. */
    private static void found() {
        sentence("lies(..) is the BODY of its KIND, or of the next KIND above that has one; super.lies(..) that from the KIND above the BODY's on.");
        int[][] first = {{10, 11, 12, 13}, {20, 11, 12, 21}, {10, 30, 12, 13}, {10, 11, 40, 13}, {50, 11, 51, 21},
            {10, 60, 12, 13}, {70, 71, 12, 13}};
        for (int kind = 0; kind < 7; kind++) {
            for (int voice = 0; voice < 4; voice++) {
                ClawBox x = box(kind, 1, 9);
                x.voice(1, voice, 7);
                due(first[kind][voice], x.body(0));
                // It is of the KIND that it is now.
                x.set(1, 0, (kind + 1) % 7);
                x.voice(1, voice, 7);
                due(first[(kind + 1) % 7][voice], x.body(0));
            }
        }
        // rolls(1) of a MELON's part is its own: lies(1) is (1 + 1 - 3) * 3.
        says(box(4, 1, 9), PARTS, 8, 1 - 6, 21, 13, 11, 50, 20, 10);
    }

    private static void wraps() {
        sentence("VOICES of a THING, with a number x (ints that wrap);");
        says(box(0, 1, 0), LIES, MAX, MIN, 10);
        says(box(0, 0, 0), LIES, MIN, MIN, 10);
        says(box(0, 0, 0), ROLLS, MAX, -2, 11, 10);
        says(box(0, 0, 0), ROLLS, MIN, 0, 11, 10);
        says(box(0, 0, 9), FALLS, MIN, -9, 12, 11, 10);
        says(box(1, 0, 0), LIES, MIN, MAX - 2, 20, 10);
        says(box(1, 0, 1), PARTS, MIN, MIN - 4, 21, 13, 11, 20, 10);
        says(box(2, 0, 0), ROLLS, MIN / 2, MIN, 30, 11, 10);
        says(box(4, 0, 0), LIES, MAX, (MAX - 3) * 3, 50, 20, 10);
        says(box(5, 0, 0), ROLLS, MAX, 0, 60, 30, 11, 10);
        says(box(3, 0, 0), FALLS, MIN, MIN, 40, 12, 11, 10);
        // By -1 the least int stays as it is.
        says(box(0, 1, 0), PARTS, MIN, MIN, 13);
        says(box(0, 1, 0), PARTS, MAX, -MAX, 13);
        // An answer that looks like an ERROR is none.
        ClawBox x = box(0, 0, 0);
        for (int k = 1; k <= 6; k++) {
            due(LOW - k, x.voice(0, LIES, LOW - k));
        }
        for (int k = 1; k <= 6; k++) {
            due(0, x.told(k));
        }
    }

    private static void cut() {
        sentence("Quotients are cut toward 0.");
        for (int with = -20; with <= 20; with++) {
            for (int k = 0; k < 16; k += 3) {
                for (int m = 0; m <= 9; m++) {
                    due(m == k ? PARTED : with / (m - k), box(0, k, m).voice(k, PARTS, with));
                }
            }
            due(with / 2 * 2, box(3, 0, 0).voice(0, FALLS, with));
        }
    }

    private static void parted() {
        sentence("(PARTED if that is 0; that is all that voice() answers then).");
        for (int kind = 0; kind < 7; kind++) {
            boolean ball = kind == 1 || kind == 4;
            for (int m = 0; m <= 9; m++) {
                ClawBox x = box(kind, m, m);
                if (ball) {
                    says(x, PARTS, 7, PARTED, 21, 13);
                } else {
                    says(x, PARTS, 7, PARTED, 13);
                }
                due(1, x.told(6));
                due(PARTED, x.voice(m, PARTS, 0));
                due(PARTED, x.voice(m, PARTS, MIN));
                due(3, x.told(6));
                // The other VOICES don't part.
                for (int voice = 0; voice < 3; voice++) {
                    due(1, x.voice(m, voice, 7) > LOW ? 1 : 0);
                }
                due(3, x.told(6));
            }
            // A quotient of 0 isn't PARTED, nor is a number k that no m can be.
            due(1, box(kind, 0, 1).voice(0, PARTS, 0) > LOW ? 1 : 0);
            due(1, box(kind, 10, 9).voice(10, PARTS, 7) > LOW ? 1 : 0);
            due(1, box(kind, 15, 0).voice(15, PARTS, 0) > LOW ? 1 : 0);
        }
        // Nothing but THE TRACE changes, and it is as ahead once the same voice() is asked again.
        due(PARTED, rich().voice(4, PARTS, 7));
        alike(Edge::rich, after(Edge::rich, x -> x.voice(4, PARTS, 7) + x.voice(6, FALLS, 7)), 6);
    }

    private static void trace() {
        sentence("THE TRACE: the numbers of BODIES of the latest voice(), as they began (what stands left is worked out first), the first 30.");
        ClawBox x = new ClawBox();
        due(0, x.count(10));
        refused(NONE, ClawBox::new, box -> box.body(0));
        x.lay(49, 6);
        x.voice(0, FALLS, 0);
        due(6, x.count(10));
        x.voice(0, LIES, 0);
        due(3, x.count(10));
        due(50, x.body(0));
        due(10, x.body(2));
        due(NONE, x.body(3));
        // What would be, PULLS and set() leave it as it is.
        x.set(0, 0, 0);
        x.pull(6);
        x.out(0);
        due(3, x.count(10));
        x.voice(0, LIES, 0);
        due(1, x.count(10));

        sentence("THE TRACE's i-th. NONE: there is none such.");
        for (int i : new int[] {-1, 6, 29, 30, MIN, MAX}) {
            refused(NONE, Edge::rich, box -> box.body(i));
        }
        int[] bodies = {51, 12, 11, 50, 20, 10};
        for (int i = 0; i < 6; i++) {
            int at = i;
            due(bodies[i], rich().body(i));
            looks(Edge::rich, box -> box.body(at));
        }
    }

    private static void errors() {
        sentence("0 lies, 1 rolls, 2 falls, 3 parts.");
        for (int voice : new int[] {-1, 4, MIN, MAX}) {
            refused(BEYOND, Edge::rich, x -> x.voice(0, voice, 7));
            refused(BEYOND, Edge::rich, x -> x.voice(3, voice, 7));
        }
        sentence("A VOICE of a THING. BEYOND. PARTED.");
        for (int thing : new int[] {-1, 10, 16, MIN, MAX}) {
            for (int voice = 0; voice < 4; voice++) {
                int asked = voice;
                refused(BEYOND, Edge::rich, x -> x.voice(thing, asked, 7));
            }
        }
        refused(BEYOND, ClawBox::new, x -> x.voice(0, 0, 0));
        refused(BEYOND, Edge::crowded, x -> x.voice(16, 3, 0));
        // One that is WON or out has its VOICES, too.
        due(15, rich().voice(8, LIES, 7));
        due(16, rich().voice(9, LIES, 10));
    }
}
