import java.util.ArrayList;
import java.util.Arrays;
import java.util.List;
import java.util.Random;

/**
 * Long runs of calls, each answer compared with that of a second, plain model: lists, copies of the whole box,
 * all rows tried one by one, texts split at their signs. The seeds are fixed, so each run is always the same.
 */
public final class ModelTests {

    private static final int RUNS = 400;
    private static final int CALLS = 512;

    public static void main(String[] args) {
        int answers = 0;
        for (int run = 0; run < RUNS; run++) {
            Random random = new Random(1000003L * run + 17);
            ClawBox box = new ClawBox();
            Model model = new Model();
            Calls calls = new Calls(random);
            StringBuilder story = new StringBuilder();
            for (int i = 0; i < CALLS; i++) {
                Call call = calls.next(model);
                long got = call.askBox(box);
                long want = model.ask(call);
                story.append(call).append(" = ").append(got).append('\n');
                answers++;
                if (got != want) {
                    System.out.println(story + "run " + run + ": due is " + want);
                    System.exit(1);
                }
            }
        }
        System.out.println(answers + " answers as the model's");
    }

    private record Call(String name, long[] a) {
        int i(int k) {
            return (int) a[k];
        }

        @Override
        public String toString() {
            String inner = Arrays.toString(a);
            return name + "(" + inner.substring(1, inner.length() - 1) + ")";
        }

        long askBox(ClawBox x) {
            return switch (name) {
                case "lay" -> x.lay(i(0), i(1));
                case "thingIs" -> x.thingIs(i(0), i(1));
                case "as" -> x.as(i(0), i(1));
                case "set" -> x.set(i(0), i(1), i(2));
                case "out" -> x.out(i(0));
                case "back" -> x.back(i(0), i(1));
                case "spring" -> x.spring(i(0), i(1));
                case "wind" -> x.wind();
                case "cellIs" -> x.cellIs(i(0), i(1));
                case "feed" -> x.feed(a[0], i(1));
                case "text" -> x.text(i(0));
                case "untell" -> x.untell(i(0));
                case "pull" -> x.pull(i(0));
                case "pulls" -> x.pulls(i(0));
                case "draws" -> x.draws(i(0));
                case "seed" -> x.seed(i(0));
                case "fewest" -> x.fewest(i(0), i(1), i(2));
                case "game" -> x.game(i(0), i(1));
                case "haul" -> x.haul(i(0));
                case "changed" -> x.changed(i(0));
                case "springs" -> x.springs(i(0), i(1));
                case "odds" -> x.odds(i(0), i(1));
                case "seen" -> x.seen(i(0), i(1));
                case "fill" -> x.fill(i(0));
                case "voice" -> x.voice(i(0), i(1), i(2));
                case "body" -> x.body(i(0));
                case "sheet" -> x.sheet(i(0), i(1), i(2));
                case "put" -> x.put(i(0), i(1), i(2));
                case "move" -> x.move(i(0), i(1), i(2), i(3), i(4));
                case "judge" -> x.judge(i(0), i(1));
                case "image" -> x.image();
                case "restore" -> x.restore();
                case "tell" -> x.tell(i(0));
                case "check" -> x.check(i(0));
                case "count" -> x.count(i(0));
                case "told" -> x.told(i(0));
                default -> throw new IllegalStateException(name);
            };
        }
    }

    /** Makes calls that mostly mean something, and now and then don't. */
    private static final class Calls {
        private static final int[] ODD = {Integer.MIN_VALUE, -1000000001, -3, -2, -1, 0, 1, 2, 3, 5, 6, 7, 9, 10, 15, 16,
            24, 25, 60, 61, 99, 100, 128, 200, 255, 256, 65536, Integer.MAX_VALUE};
        private static final String[] OFTEN = {"lay", "lay", "lay", "thingIs", "thingIs", "thingIs", "as", "set", "set",
            "out", "back", "back", "back", "spring", "wind", "wind", "cellIs", "cellIs", "cellIs", "text", "untell",
            "pull", "pull", "pulls", "draws", "seed", "fewest", "fewest", "game", "game", "haul", "haul", "changed",
            "changed", "springs", "odds", "odds", "seen", "seen", "fill", "voice", "voice", "body", "body", "sheet",
            "put", "move", "judge", "judge", "image", "restore", "tell", "check", "check", "count", "count", "count",
            "told", "write", "write", "fitting", "piled", "piled", "piled", "rowed", "rowed", "waits", "crowd"};
        private final Random random;
        /** The CELLS that a run likes best, so that piles grow high. */
        private final int least;
        private final int span;
        private final List<Call> ready = new ArrayList<>();

        Calls(Random r) {
            random = r;
            least = 1 + r.nextInt(11);
            span = 1 + r.nextInt(4);
            for (int i = 0; i < 4 + r.nextInt(12); i++) {
                ready.add(call("lay", upTo(69), cell()));
            }
        }

        private int cell() {
            return random.nextInt(4) == 0 ? 1 + upTo(14) : least + upTo(span);
        }

        private int upTo(int n) {
            return random.nextInt(n + 1);
        }

        private int odd() {
            return ODD[random.nextInt(ODD.length)];
        }

        private static Call call(String name, long... a) {
            return new Call(name, a);
        }

        Call next(Model model) {
            if (!ready.isEmpty()) {
                return ready.remove(0);
            }
            Call made = make(OFTEN[random.nextInt(OFTEN.length)], model);
            if (made.a().length > 0 && random.nextInt(12) == 0) {
                made.a()[random.nextInt(made.a().length)] = odd();
            }
            for (int i = random.nextInt(60); i < made.a().length; i++) {
                made.a()[i] = odd();
            }
            return made;
        }

        private Call make(String name, Model model) {
            int thing = upTo(Math.max(0, model.box.things.size() - 1));
            int cell = cell();
            int sheet = upTo(3);
            switch (name) {
                case "lay": return call(name, upTo(69), cell);
                case "thingIs": return call(name, thing, upTo(7));
                case "as": return call(name, thing, upTo(6));
                case "set": {
                    int what = upTo(2);
                    return call(name, thing, what, upTo(what == 0 ? 6 : what == 1 ? 9 : 99));
                }
                case "back": return call(name, thing, cell);
                case "out": return call(name, thing);
                case "spring": {
                    int what = upTo(1);
                    return call(name, what, what == 0 ? 10 + upTo(50) : upTo(4));
                }
                case "wind": return call(name);
                case "image": case "restore": return call(random.nextInt(4) == 0 ? name : "wind");
                case "cellIs": return call(name, upTo(15), upTo(3));
                case "crowd": return crowd(model);
                case "rowed": return rowed(sheet);
                case "text": case "untell": return call(name, upTo(1));
                case "pull": case "check": return call(name, cell);
                case "draws": return call(name, 1 + upTo(random.nextInt(6) == 0 ? 59 : 5));
                case "seed": return call(name, random.nextInt());
                case "fewest": return call(name, thing, 1 + upTo(2), upTo(3) - 1);
                case "game": return call(name, 1 + (random.nextInt(3) > 0 ? upTo(1) : 2), upTo(1));
                case "pulls": case "haul": case "changed": return call(name, sheet);
                case "springs": case "odds": return call(name, sheet, upTo(1));
                case "seen": return call(name, upTo(3), random.nextInt(2) * upTo(4));
                case "fill": return call(name, upTo(5));
                case "voice": return call(name, thing, upTo(3), random.nextBoolean() ? odd() : upTo(200) - 100);
                case "body": return call(name, upTo(5));
                case "sheet": return call(name, sheet, new int[] {0, 8, 8, 16, 16, 32}[upTo(5)], upTo(24));
                case "put": return call(name, sheet, upTo(7), cell);
                case "move": return call(name, sheet, upTo(4), upTo(3), upTo(4), upTo(5));
                case "judge": return call(name, sheet, upTo(15));
                case "tell": return call(name, upTo(3));
                case "count": return call(name, upTo(11));
                case "told": return call(name, 1 + upTo(5));
                case "write": return write();
                case "fitting": return fitting(model, sheet);
                case "piled": return piled(model, sheet);
                case "waits": return waits(model, cell);
                default: throw new IllegalStateException(name);
            }
        }

        /** Writes a text, mostly a sound one, and tells it. */
        private Call write() {
            int use = upTo(1);
            StringBuilder s = new StringBuilder();
            grow(s, use == 0 ? "mouc" : "wkm", 4, 0);
            if (random.nextInt(4) == 0 && s.length() > 0) {
                s.setCharAt(random.nextInt(s.length()), "!(|&<=>+-*/%)0m x1".charAt(random.nextInt(18)));
            }
            if (random.nextInt(6) == 0) {
                s.setLength(random.nextInt(s.length() + 1));
            }
            for (int from = 0; from < s.length(); from += 8) {
                long word = random.nextInt(2) * random.nextLong();
                int n = Math.min(8, s.length() - from);
                for (int i = n - 1; i >= 0; i--) {
                    word = word << 8 | s.charAt(from + i);
                }
                ready.add(call("feed", word, n));
            }
            ready.add(call("text", use));
            for (int i = 0; i < 3; i++) {
                ready.add(call("thingIs", upTo(15), use == 0 ? 6 : 7));
            }
            return ready.remove(0);
        }

        private void grow(StringBuilder s, String names, int deep, int open) {
            int shape = random.nextInt(deep > 0 && s.length() < 40 ? 8 : 3);
            if (shape == 0) {
                s.append(random.nextInt(random.nextBoolean() ? 12000 : 40));
            } else if (shape <= 2) {
                s.append(names.charAt(random.nextInt(names.length())));
            } else if (shape == 3 && open < 6) {
                s.append('!');
                grow(s, names, 0, open + 1);
            } else if (shape == 4 && open < 6) {
                s.append('(');
                grow(s, names, deep - 1, open + 1);
                s.append(')');
            } else {
                grow(s, names, deep - 1, open);
                s.append("|&<=>+-*/%+-*".charAt(random.nextInt(13)));
                grow(s, names, deep - 1, open);
            }
        }

        /** Pulls that held or not, as some spring would have it. */
        private Call fitting(Model model, int sheet) {
            int spring = upTo(99);
            int pairs = 1 + upTo(3);
            for (int i = 0; i < pairs; i++) {
                int needs = upTo(110);
                int strength = Math.max(0, spring - i * model.box.weaker);
                ready.add(call("put", sheet, 2 * i, needs));
                ready.add(call("put", sheet, 2 * i + 1, strength >= needs ? 2 : 2 * strength >= needs ? 1 : 0));
            }
            ready.add(call("springs", sheet, 0));
            ready.add(call("springs", sheet, 1));
            return call("sheet", sheet, 8 << upTo(2), 2 * pairs + upTo(1));
        }

        /** A SHEET with the things of a pile, or with a short row of pulls at it. */
        private Call piled(Model model, int sheet) {
            int cell = cell();
            List<Integer> pile = model.box.piles.get(cell);
            boolean row = random.nextBoolean();
            for (int i = 0; i < pile.size(); i++) {
                ready.add(call("put", sheet, i, row ? random.nextInt(3) == 0 ? 1 + upTo(14) : cell : pile.get(i)));
            }
            int judged = random.nextInt(4) == 0 ? cell() : cell;
            ready.add(call("judge", sheet, judged));
            ready.add(call("odds", sheet, 0));
            ready.add(call("odds", sheet, 1));
            ready.add(call("haul", sheet));
            ready.add(call("changed", sheet));
            return call("sheet", sheet, 8 << upTo(2), pile.size() + (random.nextInt(6) == 0 ? 1 : 0));
        }

        /** A row of pulls at the CELLS that the run likes, and what it would do. */
        private Call rowed(int sheet) {
            int n = 1 + upTo(7);
            for (int i = 0; i < n; i++) {
                ready.add(call("put", sheet, i, random.nextInt(20) == 0 ? odd() : cell()));
            }
            ready.add(call("odds", sheet, upTo(1)));
            ready.add(call("haul", sheet));
            ready.add(call("changed", sheet));
            if (random.nextInt(3) == 0) {
                ready.add(call("pulls", sheet));
            }
            return call("sheet", sheet, 8 << upTo(2), n);
        }

        /** More than can wait, or than THE TAPE holds. */
        private Call crowd(Model model) {
            boolean tape = random.nextBoolean();
            int n = tape ? 9 : 25 - model.waits.size();
            for (int i = 0; i < n; i++) {
                ready.add(tape ? call("feed", random.nextLong(), 5 + upTo(3)) : call("tell", random.nextInt()));
            }
            ready.add(tape ? call("text", upTo(1)) : call("check", cell()));
            return call("count", tape ? 8 : 9);
        }

        /** Numbers that wait, mostly as they should be. */
        private Call waits(Model model, int cell) {
            Box box = model.box.copy();
            int n = upTo(5);
            for (int i = 0; i < n; i++) {
                int does = box.does(cell);
                box.pull(cell);
                ready.add(call("tell", random.nextInt(15) == 0 ? upTo(3) : does));
            }
            ready.add(call("check", cell));
            return call("check", cell);
        }
    }

    private static final class Refusal extends RuntimeException {
        private static final long serialVersionUID = 1;
        final int k;

        Refusal(int number) {
            super(null, null, false, false);
            k = number;
        }
    }

    private static void ask(boolean fine, int k) {
        if (!fine) {
            throw new Refusal(k);
        }
    }

    private static boolean in(int v, int least, int most) {
        return v >= least && v <= most;
    }

    private static final class Thing {
        int kind;
        int m;
        int worth = 10;
        /** -1 WON, -2 out; in a CELL the pile tells it. */
        int gone = -2;

        Thing copy() {
            Thing t = new Thing();
            t.kind = kind;
            t.m = m;
            t.worth = worth;
            t.gone = gone;
            return t;
        }
    }

    private static final class Box {
        List<Thing> things = new ArrayList<>();
        List<List<Integer>> piles = new ArrayList<>();
        int spring = 60;
        int weaker = 1;
        int pulls;
        int pennies;
        int z = 1;
        String needsText;
        String likesText;

        Box() {
            for (int i = 0; i < 16; i++) {
                piles.add(new ArrayList<>());
            }
        }

        Box copy() {
            Box b = new Box();
            for (Thing t : things) {
                b.things.add(t.copy());
            }
            for (int i = 0; i < 16; i++) {
                b.piles.get(i).addAll(piles.get(i));
            }
            b.spring = spring;
            b.weaker = weaker;
            b.pulls = pulls;
            b.pennies = pennies;
            b.z = z;
            b.needsText = needsText;
            b.likesText = likesText;
            return b;
        }

        int cell(int t) {
            for (int c = 0; c < 16; c++) {
                if (piles.get(c).contains(t)) {
                    return c;
                }
            }
            return things.get(t).gone;
        }

        int under(int t) {
            int c = cell(t);
            return c < 0 ? -1 : piles.get(c).indexOf(t);
        }

        int on(int t) {
            int c = cell(t);
            return c < 0 ? -1 : piles.get(c).size() - 1 - piles.get(c).indexOf(t);
        }

        int needs(int t) {
            Thing thing = things.get(t);
            int m = thing.m;
            int on = Math.max(0, on(t));
            int[] plain = {20 + m, 30 + m, 12 + m, 40 + 2 * m, 30 + 2 * m, 12 + m + 2 * on, 20 + m};
            int needs = plain[thing.kind];
            if (thing.kind == 6 && needsText != null) {
                int[] names = {m, on, Math.max(0, under(t)), cell(t)};
                needs = Texts.value(needsText, "mouc", names);
            }
            return Math.max(1, Math.min(99, needs));
        }

        int likes(int t) {
            Thing thing = things.get(t);
            int likes = thing.worth;
            if (likesText != null) {
                likes = Texts.value(likesText, "wkm", new int[] {thing.worth, thing.kind, thing.m});
            }
            return Math.max(-999, Math.min(999, likes));
        }

        int strength() {
            return Math.max(0, spring - pulls * weaker);
        }

        int does(int c) {
            List<Integer> pile = piles.get(c);
            if (pile.isEmpty()) {
                return 0;
            }
            int needs = needs(pile.get(pile.size() - 1));
            if (strength() >= needs) {
                return 2;
            }
            if (2 * strength() < needs) {
                return 0;
            }
            int row = c / 4;
            int column = c % 4;
            int next = column > 0 ? 4 * row + column - 1 : 4 * (row - 1);
            return next == 0 ? 2 : piles.get(next).size() == 5 ? 3 : 1;
        }

        int pull(int c) {
            int does = does(c);
            List<Integer> pile = piles.get(c);
            int won = -1;
            if (does == 2) {
                won = pile.remove(pile.size() - 1);
                things.get(won).gone = -1;
            } else if (does == 1) {
                piles.get(c % 4 == 0 ? c - 4 : c - 1).add(pile.remove(pile.size() - 1));
            }
            pulls = Math.min(9999, pulls + 1);
            pennies = Math.min(99999, pennies + 1);
            return won;
        }

        int haul(List<Integer> row) {
            Box b = copy();
            int haul = 0;
            for (int c : row) {
                int won = b.pull(c);
                haul += won < 0 ? 0 : b.likes(won);
            }
            return haul;
        }

        int gain(int c, int n) {
            Box b = copy();
            int won = b.pull(c);
            int gain = won < 0 ? 0 : likes(won);
            if (n > 1) {
                int other = Integer.MIN_VALUE;
                for (int next = 1; next < 16; next++) {
                    other = Math.max(other, b.gain(next, n - 1));
                }
                gain -= other;
            }
            return gain;
        }

        List<Integer> way(int t, int n) {
            for (int c = 1; c < 16; c++) {
                Box b = copy();
                int won = b.pull(c);
                if (n == 1 && won == t) {
                    return new ArrayList<>(List.of(c));
                }
                List<Integer> rest = n > 1 && won != t ? b.way(t, n - 1) : null;
                if (rest != null) {
                    rest.add(0, c);
                    return rest;
                }
            }
            return null;
        }

        Box swapped(int s, int t) {
            Box b = copy();
            int cs = cell(s);
            int ct = cell(t);
            int us = under(s);
            int ut = under(t);
            b.piles.get(cs).set(us, t);
            b.piles.get(ct).set(ut, s);
            return b;
        }
    }

    /** Texts by splitting them at the signs outside brackets, the weakest first. */
    private static final class Texts {
        private static final String[] SIGNS = {"|", "&", "<=>", "+-", "*/%"};

        static int fault(String s, String names) {
            for (int n = 1; n <= s.length(); n++) {
                if (!goesOn(s.substring(0, n), names)) {
                    return n - 1;
                }
            }
            return is(s, names, 0, 0) ? -1 : s.length();
        }

        private static boolean goesOn(String s, String names) {
            StringBuilder closed = new StringBuilder();
            for (char c : s.toCharArray()) {
                if (c == '(') {
                    closed.append(')');
                } else if (c == ')') {
                    if (closed.length() == 0) {
                        return false;
                    }
                    closed.setLength(closed.length() - 1);
                }
            }
            return is(s + closed, names, 0, 0) || is(s + "1" + closed, names, 0, 0);
        }

        private static boolean is(String s, String names, int level, int open) {
            if (open > 5) {
                return false;
            }
            if (level == 5) {
                if (s.matches("[0-9]{1,4}") || s.length() == 1 && names.contains(s)) {
                    return true;
                }
                if (s.startsWith("!")) {
                    return is(s.substring(1), names, 5, open + 1);
                }
                return s.startsWith("(") && s.endsWith(")") && closes(s)
                    && is(s.substring(1, s.length() - 1), names, 0, open + 1);
            }
            List<Integer> at = split(s, SIGNS[level]);
            if (level == 2 && at.size() > 1) {
                return false;
            }
            int from = 0;
            for (int cut : at) {
                if (!is(s.substring(from, cut), names, level + 1, open)) {
                    return false;
                }
                from = cut + 1;
            }
            return is(s.substring(from), names, level + 1, open);
        }

        private static boolean closes(String s) {
            int deep = 0;
            for (int i = 0; i < s.length(); i++) {
                deep += s.charAt(i) == '(' ? 1 : s.charAt(i) == ')' ? -1 : 0;
                if (deep == 0 && i < s.length() - 1) {
                    return false;
                }
            }
            return deep == 0;
        }

        private static List<Integer> split(String s, String signs) {
            List<Integer> at = new ArrayList<>();
            int deep = 0;
            for (int i = 0; i < s.length(); i++) {
                char c = s.charAt(i);
                deep += c == '(' ? 1 : c == ')' ? -1 : 0;
                if (deep == 0 && signs.indexOf(c) >= 0) {
                    at.add(i);
                }
            }
            return at;
        }

        static int value(String s, String names, int[] values) {
            for (String signs : SIGNS) {
                List<Integer> at = split(s, signs);
                if (!at.isEmpty()) {
                    int cut = at.get(at.size() - 1);
                    int left = value(s.substring(0, cut), names, values);
                    int right = value(s.substring(cut + 1), names, values);
                    return join(s.charAt(cut), left, right);
                }
            }
            if (s.startsWith("!")) {
                return value(s.substring(1), names, values) == 0 ? 1 : 0;
            }
            if (s.startsWith("(")) {
                return value(s.substring(1, s.length() - 1), names, values);
            }
            return Character.isDigit(s.charAt(0)) ? Integer.parseInt(s) : values[names.indexOf(s)];
        }

        private static int join(char sign, int a, int b) {
            return switch (sign) {
                case '|' -> a != 0 || b != 0 ? 1 : 0;
                case '&' -> a != 0 && b != 0 ? 1 : 0;
                case '<' -> a < b ? 1 : 0;
                case '=' -> a == b ? 1 : 0;
                case '>' -> a > b ? 1 : 0;
                case '+' -> (int) ((long) a + b);
                case '-' -> (int) ((long) a - b);
                case '*' -> (int) ((long) a * b);
                case '/' -> b == 0 ? 0 : (int) ((long) a / b);
                default -> b == 0 ? 0 : (int) ((long) a % b);
            };
        }
    }

    /** The VOICES as real classes, with real super. */
    private static class ThingVoice {
        final List<Integer> trace = new ArrayList<>();
        int k;
        int m;

        int lies(int x) {
            trace.add(10);
            return x + k;
        }

        int rolls(int x) {
            trace.add(11);
            return lies(x) * 2;
        }

        int falls(int x) {
            trace.add(12);
            return rolls(x) - m;
        }

        int parts(int x) {
            trace.add(13);
            ask(m != k, 6);
            return x / (m - k);
        }
    }

    private static class BallVoice extends ThingVoice {
        @Override
        int lies(int x) {
            trace.add(20);
            return super.lies(x) - 3;
        }

        @Override
        int parts(int x) {
            trace.add(21);
            return super.parts(x) + rolls(1);
        }
    }

    private static class BearVoice extends ThingVoice {
        @Override
        int rolls(int x) {
            trace.add(30);
            return 0 - super.rolls(x);
        }
    }

    private static final class SlipperyVoice extends ThingVoice {
        @Override
        int falls(int x) {
            trace.add(40);
            return super.falls(x / 2);
        }
    }

    private static final class MelonVoice extends BallVoice {
        @Override
        int lies(int x) {
            trace.add(50);
            return super.lies(x) * 3;
        }

        @Override
        int falls(int x) {
            trace.add(51);
            return super.falls(x) ^ k;
        }
    }

    private static final class BlueVoice extends BearVoice {
        @Override
        int rolls(int x) {
            trace.add(60);
            return super.rolls(x + 1);
        }
    }

    private static final class ToldVoice extends ThingVoice {
        @Override
        int lies(int x) {
            trace.add(70);
            return 4;
        }

        @Override
        int rolls(int x) {
            trace.add(71);
            return super.rolls(x) + m;
        }
    }

    private static final class Model {
        Box box = new Box();
        Box kept;
        List<Integer> tape = new ArrayList<>();
        List<Integer> keptTape;
        List<Integer> waits = new ArrayList<>();
        List<Integer> keptWaits;
        List<Integer> trace = new ArrayList<>();
        int[] bits = new int[4];
        List<List<Integer>> sheets = new ArrayList<>();
        int images;
        int[] refused = new int[7];

        Model() {
            for (int i = 0; i < 4; i++) {
                sheets.add(new ArrayList<>());
            }
        }

        long ask(Call call) {
            try {
                return answer(call);
            } catch (Refusal r) {
                refused[r.k]++;
                return -1000000000 - r.k;
            }
        }

        private static void ask(boolean fine, int k) {
            ModelTests.ask(fine, k);
        }

        private void thing(int t) {
            ask(in(t, 0, box.things.size() - 1), 1);
        }

        private List<Integer> sheet(int s) {
            ask(in(s, 0, 3), 1);
            ask(bits[s] != 0, 2);
            return sheets.get(s);
        }

        private List<Integer> row(int s) {
            List<Integer> row = new ArrayList<>();
            for (int v : sheet(s)) {
                if (!in(v, 1, 15)) {
                    break;
                }
                row.add(v);
            }
            return row;
        }

        private long answer(Call c) {
            int a = c.a().length > 0 ? c.i(0) : 0;
            int b = c.a().length > 1 ? c.i(1) : 0;
            int d = c.a().length > 2 ? c.i(2) : 0;
            switch (c.name()) {
                case "lay": case "thingIs": case "as": case "set": case "out": case "back": case "spring":
                case "wind": case "cellIs":
                    return things(c.name(), a, b, d);
                case "feed": return feed(c.a()[0], b);
                case "text": return text(a);
                case "untell": return untell(a);
                case "pull": case "pulls": case "draws": case "seed":
                    return pulls(c.name(), a);
                case "fewest": case "game": case "haul": case "changed": case "springs": case "odds": case "seen":
                case "fill":
                    return wouldBe(c.name(), a, b, d);
                case "move": return move(a, b, d, c.i(3), c.i(4));
                default: return rest(c.name(), a, b, d);
            }
        }

        private int things(String name, int a, int b, int d) {
            switch (name) {
                case "lay": {
                    ask(in(a, 0, 69) && in(b, 1, 15), 1);
                    ask(box.things.size() < 16 && box.piles.get(b).size() < 5, 4);
                    Thing t = new Thing();
                    t.kind = a / 10;
                    t.m = a % 10;
                    box.things.add(t);
                    box.piles.get(b).add(box.things.size() - 1);
                    return box.things.size() - 1;
                }
                case "thingIs": {
                    thing(a);
                    ask(in(b, 0, 7), 1);
                    Thing t = box.things.get(a);
                    int[] all = {t.kind, t.m, t.worth, box.cell(a), box.under(a), box.on(a), box.needs(a), box.likes(a)};
                    return all[b];
                }
                case "as": {
                    thing(a);
                    ask(in(b, 0, 6), 1);
                    int kind = box.things.get(a).kind;
                    ask(b == 0 || kind == b || kind == 4 && b == 1 || kind == 5 && b == 2, 5);
                    return box.things.get(a).worth;
                }
                case "set": {
                    thing(a);
                    ask(in(b, 0, 2), 1);
                    ask(in(d, 0, new int[] {6, 9, 99}[b]), 1);
                    Thing t = box.things.get(a);
                    int was = new int[] {t.kind, t.m, t.worth}[b];
                    t.kind = b == 0 ? d : t.kind;
                    t.m = b == 1 ? d : t.m;
                    t.worth = b == 2 ? d : t.worth;
                    return was;
                }
                case "out": {
                    thing(a);
                    int cell = box.cell(a);
                    ask(cell >= 0, 3);
                    box.piles.get(cell).remove((Integer) a);
                    box.things.get(a).gone = -2;
                    return cell;
                }
                case "back": {
                    thing(a);
                    ask(in(b, 1, 15), 1);
                    ask(box.cell(a) < 0, 3);
                    ask(box.piles.get(b).size() < 5, 4);
                    box.piles.get(b).add(a);
                    return box.piles.get(b).size();
                }
                case "spring": {
                    ask(a == 0 && in(b, 0, 99) || a == 1 && in(b, 0, 9), 1);
                    int was = a == 0 ? box.spring : box.weaker;
                    box.spring = a == 0 ? b : box.spring;
                    box.weaker = a == 1 ? b : box.weaker;
                    return was;
                }
                case "wind": {
                    int was = box.pulls;
                    box.pulls = 0;
                    return was;
                }
                default: {
                    ask(in(a, 0, 15) && in(b, 0, 3), 1);
                    List<Integer> pile = box.piles.get(a);
                    int n = pile.size();
                    int[] all = {n, n == 0 ? -1 : pile.get(n - 1), n == 0 ? -1 : pile.get(0), box.does(a)};
                    return all[b];
                }
            }
        }

        private int feed(long word, int n) {
            ask(in(n, 1, 8), 1);
            ask(tape.size() + n <= 60, 4);
            for (int i = 0; i < n; i++) {
                tape.add((int) Math.floorMod(word >> 8 * i, 256L));
            }
            return tape.size();
        }

        private int text(int use) {
            ask(in(use, 0, 1), 1);
            StringBuilder s = new StringBuilder();
            for (int v : tape) {
                s.append((char) v);
            }
            tape.clear();
            int fault = Texts.fault(s.toString(), use == 0 ? "mouc" : "wkm");
            if (fault >= 0) {
                return -10 - fault;
            }
            box.needsText = use == 0 ? s.toString() : box.needsText;
            box.likesText = use == 1 ? s.toString() : box.likesText;
            return 1;
        }

        private int untell(int use) {
            ask(in(use, 0, 1), 1);
            String was = use == 0 ? box.needsText : box.likesText;
            box.needsText = use == 0 ? null : box.needsText;
            box.likesText = use == 1 ? null : box.likesText;
            return was == null ? 0 : 1;
        }

        private int pulls(String name, int a) {
            switch (name) {
                case "pull": {
                    ask(in(a, 1, 15), 1);
                    return box.pull(a);
                }
                case "pulls": {
                    List<Integer> row = row(a);
                    for (int cell : row) {
                        box.pull(cell);
                    }
                    return row.size();
                }
                case "draws": {
                    ask(in(a, 1, 60), 1);
                    int won = 0;
                    for (int i = 0; i < a; i++) {
                        box.z = (int) (box.z * 1103515245L + 12345);
                        won += box.pull(1 + (int) ((box.z & 0xffffffffL) / 256 % 15)) >= 0 ? 1 : 0;
                    }
                    return won;
                }
                default: {
                    int was = box.z;
                    box.z = a;
                    return was;
                }
            }
        }

        private long wouldBe(String name, int a, int b, int d) {
            switch (name) {
                case "fewest": return fewest(a, b, d);
                case "game": {
                    ask(in(a, 1, 3) && in(b, 0, 1), 1);
                    int value = Integer.MIN_VALUE;
                    int first = 0;
                    for (int cell = 15; cell >= 1; cell--) {
                        int gain = box.gain(cell, a);
                        if (gain >= value) {
                            value = gain;
                            first = cell;
                        }
                    }
                    return b == 0 ? value : first;
                }
                case "haul": return box.haul(row(a));
                case "changed": return changed(row(a));
                case "springs": return springs(a, b);
                case "odds": return odds(a, b);
                case "seen": {
                    ask(in(a, 0, 3) && in(b, 0, 4), 1);
                    for (int row = 0; row < 4; row++) {
                        List<Integer> pile = box.piles.get(4 * row + a);
                        if (pile.size() > b) {
                            return pile.get(b);
                        }
                    }
                    throw new Refusal(2);
                }
                default: {
                    ask(in(a, 0, 5), 1);
                    int wanted = 0;
                    for (int cell = 1; cell < 16; cell++) {
                        wanted += Math.max(0, a - box.piles.get(cell).size());
                    }
                    return wanted;
                }
            }
        }

        private int fewest(int t, int n, int what) {
            thing(t);
            ask(in(n, 1, 3) && in(what, -1, 2), 1);
            ask(box.cell(t) >= 0, 3);
            for (int length = 1; length <= n; length++) {
                List<Integer> way = box.way(t, length);
                if (way != null) {
                    ask(what < length, 2);
                    return what == -1 ? length : way.get(what);
                }
            }
            throw new Refusal(2);
        }

        private int changed(List<Integer> row) {
            int least = box.haul(row);
            int pair = -1;
            for (int s = 0; s < box.things.size(); s++) {
                for (int t = s + 1; t < box.things.size(); t++) {
                    if (box.cell(s) >= 0 && box.cell(t) >= 0 && box.swapped(s, t).haul(row) < least) {
                        least = box.swapped(s, t).haul(row);
                        pair = 100 * s + t;
                    }
                }
            }
            ask(pair >= 0, 2);
            return pair;
        }

        private int springs(int s, int what) {
            ask(in(what, 0, 1), 1);
            List<Integer> row = sheet(s);
            List<Integer> fit = new ArrayList<>();
            for (int spring = 0; spring <= 99; spring++) {
                boolean all = true;
                for (int i = 0; i < row.size() / 2; i++) {
                    long strength = Math.max(0, spring - i * box.weaker);
                    long needs = row.get(2 * i);
                    int came = needs <= strength ? 2 : needs <= 2 * strength ? 1 : 0;
                    all &= came == row.get(2 * i + 1);
                }
                if (all) {
                    fit.add(spring);
                }
            }
            ask(what == 0 || !fit.isEmpty(), 2);
            return what == 0 ? fit.size() : fit.get(0);
        }

        private long odds(int s, int part) {
            ask(in(part, 0, 1), 1);
            List<Integer> all = sheet(s);
            ask(in(all.size(), 1, 4) && row(s).size() == all.size(), 2);
            long above = 1;
            long below = 1;
            int[] taken = new int[16];
            for (int i = 0; i < all.size(); i++) {
                int cell = all.get(i);
                List<Integer> pile = box.piles.get(cell);
                int place = pile.size() - 1 - taken[cell];
                taken[cell]++;
                int strength = Math.max(0, box.spring - Math.min(9999, box.pulls + i) * box.weaker);
                above *= place < 0 ? 0 : Math.min(16, strength * 16 / box.needs(pile.get(place)));
                below *= 16;
            }
            long common = above;
            for (long other = below; other != 0;) {
                long rest = common % other;
                common = other;
                other = rest;
            }
            return part == 0 ? above / common : below / common;
        }

        private int move(int s, int i, int o, int j, int n) {
            ask(in(s, 0, 3) && in(o, 0, 3), 1);
            ask(bits[s] != 0 && bits[o] != 0, 2);
            ask(bits[s] == bits[o], 5);
            ask(n >= 0 && i >= 0 && j >= 0, 1);
            ask((long) i + n <= sheets.get(s).size() && (long) j + n <= sheets.get(o).size(), 1);
            List<Integer> run = new ArrayList<>(sheets.get(s).subList(i, i + n));
            for (int k = 0; k < n; k++) {
                sheets.get(o).set(j + k, run.get(k));
            }
            return n;
        }

        private int voice(int t, int voice, int x) {
            thing(t);
            ask(in(voice, 0, 3), 1);
            ThingVoice v = switch (box.things.get(t).kind) {
                case 0 -> new ThingVoice();
                case 1 -> new BallVoice();
                case 2 -> new BearVoice();
                case 3 -> new SlipperyVoice();
                case 4 -> new MelonVoice();
                case 5 -> new BlueVoice();
                default -> new ToldVoice();
            };
            v.k = t;
            v.m = box.things.get(t).m;
            trace = v.trace;
            return switch (voice) {
                case 0 -> v.lies(x);
                case 1 -> v.rolls(x);
                case 2 -> v.falls(x);
                default -> v.parts(x);
            };
        }

        private int rest(String name, int a, int b, int d) {
            switch (name) {
                case "voice": return voice(a, b, d);
                case "body": {
                    ask(in(a, 0, trace.size() - 1), 2);
                    return trace.get(a);
                }
                case "sheet": {
                    ask(in(a, 0, 3) && List.of(0, 8, 16, 32).contains(b), 1);
                    ask(b == 0 || d >= 0, 3);
                    ask(b == 0 || d <= 24, 1);
                    bits[a] = b;
                    sheets.get(a).clear();
                    for (int i = 0; b != 0 && i < d; i++) {
                        sheets.get(a).add(0);
                    }
                    return 1;
                }
                case "put": {
                    sheet(a);
                    ask(in(b, 0, sheets.get(a).size() - 1), 1);
                    sheets.get(a).set(b, d << 32 - bits[a] >> 32 - bits[a]);
                    return 1;
                }
                case "judge": {
                    ask(in(b, 0, 15), 1);
                    List<Integer> row = sheet(a);
                    for (int i = 0; i < Math.max(row.size(), box.piles.get(b).size()); i++) {
                        if (i >= row.size() || i >= box.piles.get(b).size()
                            || !row.get(i).equals(box.piles.get(b).get(i))) {
                            return i;
                        }
                    }
                    return -1;
                }
                default: return keeping(name, a);
            }
        }

        private int keeping(String name, int a) {
            switch (name) {
                case "image":
                    kept = box.copy();
                    keptTape = new ArrayList<>(tape);
                    keptWaits = new ArrayList<>(waits);
                    return ++images;
                case "restore":
                    ask(kept != null, 2);
                    box = kept.copy();
                    tape = new ArrayList<>(keptTape);
                    waits = new ArrayList<>(keptWaits);
                    return box.pennies;
                case "tell":
                    ask(waits.size() < 24, 4);
                    waits.add(a);
                    return waits.size();
                case "check": {
                    List<Integer> told = waits;
                    waits = new ArrayList<>();
                    ask(in(a, 1, 15), 1);
                    Box b = box.copy();
                    for (int i = 0; i < told.size(); i++) {
                        if (b.does(a) != told.get(i)) {
                            return i + 1;
                        }
                        b.pull(a);
                    }
                    return 0;
                }
                case "count": {
                    ask(in(a, 0, 11), 1);
                    int won = 0;
                    int worth = 0;
                    for (int t = 0; t < box.things.size(); t++) {
                        won += box.cell(t) == -1 ? 1 : 0;
                        worth += box.cell(t) == -1 ? box.things.get(t).worth : 0;
                    }
                    int[] all = {box.things.size(), box.pennies, box.pulls, box.strength(), box.spring, box.weaker, won,
                        worth, tape.size(), waits.size(), trace.size(), box.z};
                    return all[a];
                }
                default:
                    ask(in(a, 1, 6), 1);
                    return refused[a];
            }
        }
    }
}
