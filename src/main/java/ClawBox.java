/** The glass box at the pier with its claw. The names follow the words of ../shared/DOC.md. */
public final class ClawBox {

    private static final int LOW = -1000000000;
    private static final int BEYOND = 1;
    private static final int NONE = 2;
    private static final int STATE = 3;
    private static final int FULL = 4;
    private static final int UNKIND = 5;
    private static final int PARTED = 6;

    private static final int THING = 0;
    private static final int BALL = 1;
    private static final int BEAR = 2;
    private static final int SLIPPERY = 3;
    private static final int MELON = 4;
    private static final int BLUE = 5;
    private static final int TOLD = 6;
    private static final int KINDS = 7;
    /** The KIND above each KIND. */
    private static final int[] ABOVE = {-1, THING, THING, THING, BALL, BEAR, THING};

    private static final int CHUTE = 0;
    private static final int COLUMNS = 4;
    private static final int CELLS = 16;
    private static final int MOST_IN_PILE = 5;
    private static final int MOST_THINGS = 16;
    private static final int IS_WON = -1;
    private static final int IS_OUT = -2;

    private static final int STAYS = 0;
    private static final int DROPS = 1;
    private static final int WINS = 2;
    private static final int DROPS_BACK = 3;

    private static final int MOST_WORTH = 99;
    private static final int MOST_SPRING = 99;
    private static final int MOST_WEAKER = 9;
    private static final int MOST_PULLS = 9999;
    private static final int MOST_PENNIES = 99999;
    private static final int MOST_DRAWS = 60;
    private static final int MOST_AHEAD = 3;

    private static final int MOST_BYTES = 60;
    private static final int MOST_OPEN = 5;
    private static final int MOST_DIGITS = 4;
    private static final int MOST_WAITING = 24;
    private static final int MOST_TRACE = 30;
    private static final int SHEETS = 4;
    private static final int MOST_NUMBERS = 24;
    private static final int MOST_ODDS = 4;
    private static final int CASES = 16;
    /** How often CASES can be halved. */
    private static final int HALVES = 4;

    private final Box box;
    private final Box kept;
    /** Shares the TEXTS of the box, so that what would be costs no copy of them. */
    private final Box trial;
    private final Row tape = new Row(MOST_BYTES);
    private final Row keptTape = new Row(MOST_BYTES);
    private final Row waiting = new Row(MOST_WAITING);
    private final Row keptWaiting = new Row(MOST_WAITING);
    private final Reader reader = new Reader();
    private final Text draft = new Text();
    private final Voices voices = new Voices();
    private final Row[] sheets = {
        new Row(MOST_NUMBERS), new Row(MOST_NUMBERS), new Row(MOST_NUMBERS), new Row(MOST_NUMBERS)};
    /** 0: the SHEET is missing. */
    private final int[] bitsOf = new int[SHEETS];
    private final int[] way = new int[MOST_AHEAD];
    private final int[] refused = new int[PARTED + 1];
    private int images;

    public ClawBox() {
        box = new Box(new Text(), new Text());
        kept = new Box(new Text(), new Text());
        trial = new Box(box.needsText, box.likesText);
    }

    // ---- things, the spring

    public int lay(int km, int cell) {
        if (km < 0 || km >= 10 * KINDS || !isPile(cell)) {
            return refuse(BEYOND);
        }
        if (box.things >= MOST_THINGS || box.highOf(cell) >= MOST_IN_PILE) {
            return refuse(FULL);
        }
        return box.add(km / 10, km % 10, cell);
    }

    public int thingIs(int thing, int what) {
        if (!box.has(thing)) {
            return refuse(BEYOND);
        }
        switch (what) {
            case 0: return box.kindOf(thing);
            case 1: return box.mOf(thing);
            case 2: return box.worthOf(thing);
            case 3: return box.cellOf(thing);
            case 4: return box.under(thing);
            case 5: return box.on(thing);
            case 6: return box.needs(thing);
            case 7: return box.likes(thing);
            default: return refuse(BEYOND);
        }
    }

    public int as(int thing, int kind) {
        if (!box.has(thing) || kind < 0 || kind >= KINDS) {
            return refuse(BEYOND);
        }
        return isUnder(box.kindOf(thing), kind) ? box.worthOf(thing) : refuse(UNKIND);
    }

    public int set(int thing, int what, int v) {
        if (!box.has(thing) || what < 0 || what > 2 || v < 0 || v > mostOf(what)) {
            return refuse(BEYOND);
        }
        return box.become(thing, what, v);
    }

    public int out(int thing) {
        if (!box.has(thing)) {
            return refuse(BEYOND);
        }
        int cell = box.cellOf(thing);
        if (cell < 0) {
            return refuse(STATE);
        }
        box.take(thing, IS_OUT);
        return cell;
    }

    public int back(int thing, int cell) {
        if (!box.has(thing) || !isPile(cell)) {
            return refuse(BEYOND);
        }
        if (box.cellOf(thing) >= 0) {
            return refuse(STATE);
        }
        if (box.highOf(cell) >= MOST_IN_PILE) {
            return refuse(FULL);
        }
        box.lower(thing, cell);
        return box.highOf(cell);
    }

    public int spring(int what, int v) {
        if (what < 0 || what > 1 || v < 0 || v > (what == 0 ? MOST_SPRING : MOST_WEAKER)) {
            return refuse(BEYOND);
        }
        int was = what == 0 ? box.spring : box.weaker;
        if (what == 0) {
            box.spring = v;
        } else {
            box.weaker = v;
        }
        return was;
    }

    public int wind() {
        int was = box.pulls;
        box.pulls = 0;
        return was;
    }

    public int cellIs(int cell, int what) {
        if (!isCell(cell)) {
            return refuse(BEYOND);
        }
        switch (what) {
            case 0: return box.highOf(cell);
            case 1: return box.top(cell);
            case 2: return box.thingAt(cell, 0);
            case 3: return box.does(cell);
            default: return refuse(BEYOND);
        }
    }

    // ---- texts

    public int feed(long word, int n) {
        if (n < 1 || n > 8) {
            return refuse(BEYOND);
        }
        if (tape.size + n > MOST_BYTES) {
            return refuse(FULL);
        }
        for (int i = 0; i < n; i++) {
            tape.add((int) (word >>> (8 * i)) & 255);
        }
        return tape.size;
    }

    public int text(int use) {
        if (use < 0 || use > 1) {
            return refuse(BEYOND);
        }
        int fault = reader.read(tape, use == 0 ? "mouc" : "wkm", draft);
        tape.clear();
        if (fault >= 0) {
            return -10 - fault;
        }
        box.textFor(use).copyFrom(draft);
        return 1;
    }

    public int untell(int use) {
        if (use < 0 || use > 1) {
            return refuse(BEYOND);
        }
        Text ended = box.textFor(use);
        int was = ended.isThere() ? 1 : 0;
        ended.clear();
        return was;
    }

    // ---- pulls

    public int pull(int cell) {
        if (!isPile(cell)) {
            return refuse(BEYOND);
        }
        return box.grip(cell) == WINS ? box.gripped : -1;
    }

    public int pulls(int sheet) {
        int lack = lackOf(sheet);
        if (lack != 0) {
            return refuse(lack);
        }
        Row row = sheets[sheet];
        int made = pullsIn(row);
        for (int i = 0; i < made; i++) {
            box.grip(row.at(i));
        }
        return made;
    }

    public int draws(int n) {
        if (n < 1 || n > MOST_DRAWS) {
            return refuse(BEYOND);
        }
        int won = 0;
        for (int i = 0; i < n; i++) {
            if (box.grip(1 + box.draw() % (CELLS - 1)) == WINS) {
                won++;
            }
        }
        return won;
    }

    public int seed(int v) {
        int was = box.z;
        box.z = v;
        return was;
    }

    // ---- what would be

    public int fewest(int thing, int n, int what) {
        if (!box.has(thing) || !isAhead(n) || what < -1 || what >= MOST_AHEAD) {
            return refuse(BEYOND);
        }
        if (box.cellOf(thing) < 0) {
            return refuse(STATE);
        }
        trial.copyFrom(box);
        int length = 0;
        for (int tried = 1; tried <= n && length == 0; tried++) {
            length = leadsToWin(trial, thing, way, 0, tried) ? tried : 0;
        }
        if (length == 0 || what >= length) {
            return refuse(NONE);
        }
        return what < 0 ? length : way[what];
    }

    public int game(int n, int what) {
        if (!isAhead(n) || what < 0 || what > 1) {
            return refuse(BEYOND);
        }
        trial.copyFrom(box);
        int value = 0;
        int first = 0;
        for (int cell = 1; cell < CELLS; cell++) {
            if (isLikeOneAhead(trial, cell)) {
                continue;
            }
            int gain = gainAt(trial, cell, n);
            if (first == 0 || gain > value) {
                value = gain;
                first = cell;
            }
        }
        return what == 0 ? value : first;
    }

    public int haul(int sheet) {
        int lack = lackOf(sheet);
        if (lack != 0) {
            return refuse(lack);
        }
        trial.copyFrom(box);
        return haulOf(trial, sheets[sheet]);
    }

    public int changed(int sheet) {
        int lack = lackOf(sheet);
        if (lack != 0) {
            return refuse(lack);
        }
        Row row = sheets[sheet];
        trial.copyFrom(box);
        int least = haulOf(trial, row);
        int pair = -1;
        for (int one = 0; one < box.things; one++) {
            for (int other = one + 1; other < box.things; other++) {
                if (box.cellOf(one) < 0 || box.cellOf(other) < 0) {
                    continue;
                }
                trial.copyFrom(box);
                trial.changePlaces(one, other);
                int haul = haulOf(trial, row);
                if (haul < least) {
                    least = haul;
                    pair = 100 * one + other;
                }
            }
        }
        return pair < 0 ? refuse(NONE) : pair;
    }

    public int springs(int sheet, int what) {
        int lack = what < 0 || what > 1 ? BEYOND : lackOf(sheet);
        if (lack != 0) {
            return refuse(lack);
        }
        int fitting = 0;
        int least = -1;
        for (int spring = MOST_SPRING; spring >= 0; spring--) {
            if (fits(sheets[sheet], spring, box.weaker)) {
                fitting++;
                least = spring;
            }
        }
        if (what == 0) {
            return fitting;
        }
        return least < 0 ? refuse(NONE) : least;
    }

    public long odds(int sheet, int part) {
        int lack = part < 0 || part > 1 ? BEYOND : lackOf(sheet);
        if (lack != 0) {
            return refuse(lack);
        }
        Row row = sheets[sheet];
        if (row.size < 1 || row.size > MOST_ODDS || pullsIn(row) < row.size) {
            return refuse(NONE);
        }
        int above = 1;
        int below = 1;
        for (int i = 0; i < row.size; i++) {
            above *= casesOf(row, i);
            below *= CASES;
        }
        if (above == 0) {
            return part;
        }
        // What stands below is a power of 2, so halving alone brings it to lowest terms.
        for (int i = 0; i < HALVES * row.size && above % 2 == 0; i++) {
            above /= 2;
            below /= 2;
        }
        return part == 0 ? above : below;
    }

    public int seen(int column, int height) {
        if (column < 0 || column >= COLUMNS || height < 0 || height >= MOST_IN_PILE) {
            return refuse(BEYOND);
        }
        for (int cell = column; cell < CELLS; cell += COLUMNS) {
            int thing = box.thingAt(cell, height);
            if (thing >= 0) {
                return thing;
            }
        }
        return refuse(NONE);
    }

    public int fill(int height) {
        if (height < 0 || height > MOST_IN_PILE) {
            return refuse(BEYOND);
        }
        int wanted = 0;
        for (int cell = 1; cell < CELLS; cell++) {
            wanted += Math.max(0, height - box.highOf(cell));
        }
        return wanted;
    }

    // ---- voices, sheets, images, what is told

    public int voice(int thing, int voice, int x) {
        if (!box.has(thing) || voice < 0 || voice > Voices.PARTS) {
            return refuse(BEYOND);
        }
        boolean whole = voices.begin(box.kindOf(thing), thing, box.mOf(thing), voice, x);
        return whole ? voices.answer : refuse(PARTED);
    }

    public int body(int i) {
        return voices.trace.holds(i) ? voices.trace.at(i) : refuse(NONE);
    }

    public int sheet(int sheet, int bits, int n) {
        if (!isSheet(sheet) || bits != 0 && bits != 8 && bits != 16 && bits != 32) {
            return refuse(BEYOND);
        }
        if (bits != 0 && n < 0) {
            return refuse(STATE);
        }
        if (bits != 0 && n > MOST_NUMBERS) {
            return refuse(BEYOND);
        }
        bitsOf[sheet] = bits;
        sheets[sheet].clear();
        for (int i = 0; bits != 0 && i < n; i++) {
            sheets[sheet].add(0);
        }
        return 1;
    }

    public int put(int sheet, int i, int v) {
        int lack = lackOf(sheet);
        if (lack != 0) {
            return refuse(lack);
        }
        if (!sheets[sheet].holds(i)) {
            return refuse(BEYOND);
        }
        sheets[sheet].change(i, lowestBits(v, bitsOf[sheet]));
        return 1;
    }

    public int move(int sheet, int i, int other, int j, int n) {
        if (!isSheet(sheet) || !isSheet(other)) {
            return refuse(BEYOND);
        }
        if (bitsOf[sheet] == 0 || bitsOf[other] == 0) {
            return refuse(NONE);
        }
        if (bitsOf[sheet] != bitsOf[other]) {
            return refuse(UNKIND);
        }
        if (!sheets[sheet].holdsRun(i, n) || !sheets[other].holdsRun(j, n)) {
            return refuse(BEYOND);
        }
        sheets[other].copyRun(j, sheets[sheet], i, n);
        return n;
    }

    public int judge(int sheet, int cell) {
        int lack = !isCell(cell) ? BEYOND : lackOf(sheet);
        if (lack != 0) {
            return refuse(lack);
        }
        Row row = sheets[sheet];
        int high = box.highOf(cell);
        int both = Math.min(row.size, high);
        for (int i = 0; i < both; i++) {
            if (row.at(i) != box.thingAt(cell, i)) {
                return i;
            }
        }
        return row.size == high ? -1 : both;
    }

    public int image() {
        kept.copyWholeFrom(box);
        keptTape.copyFrom(tape);
        keptWaiting.copyFrom(waiting);
        images++;
        return images;
    }

    public int restore() {
        if (images == 0) {
            return refuse(NONE);
        }
        box.copyWholeFrom(kept);
        tape.copyFrom(keptTape);
        waiting.copyFrom(keptWaiting);
        return box.pennies;
    }

    public int tell(int v) {
        if (waiting.size >= MOST_WAITING) {
            return refuse(FULL);
        }
        waiting.add(v);
        return waiting.size;
    }

    public int check(int cell) {
        int answer = isPile(cell) ? checked(cell) : refuse(BEYOND);
        waiting.clear();
        return answer;
    }

    public int count(int what) {
        switch (what) {
            case 0: return box.things;
            case 1: return box.pennies;
            case 2: return box.pulls;
            case 3: return box.strength();
            case 4: return box.spring;
            case 5: return box.weaker;
            case 6: return box.howManyWon();
            case 7: return box.worthOfWon();
            case 8: return tape.size;
            case 9: return waiting.size;
            case 10: return voices.trace.size;
            case 11: return box.z;
            default: return refuse(BEYOND);
        }
    }

    public int told(int k) {
        return k >= BEYOND && k <= PARTED ? refused[k] : refuse(BEYOND);
    }

    // ---- what the calls share

    private int refuse(int error) {
        if (error >= 0 && error < refused.length) {
            refused[error]++;
        }
        return LOW - error;
    }

    private static boolean isCell(int cell) {
        return cell >= 0 && cell < CELLS;
    }

    private static boolean isPile(int cell) {
        return isCell(cell) && cell != CHUTE;
    }

    private static boolean isAhead(int n) {
        return n >= 1 && n <= MOST_AHEAD;
    }

    private static boolean isSheet(int sheet) {
        return sheet >= 0 && sheet < SHEETS;
    }

    /** BEYOND or NONE, if there is no such SHEET to read; else 0. */
    private int lackOf(int sheet) {
        if (!isSheet(sheet)) {
            return BEYOND;
        }
        return bitsOf[sheet] == 0 ? NONE : 0;
    }

    private static int lowestBits(int v, int bits) {
        if (bits == 8) {
            return (byte) v;
        }
        return bits == 16 ? (short) v : v;
    }

    private static int mostOf(int what) {
        if (what == 0) {
            return KINDS - 1;
        }
        return what == 1 ? 9 : MOST_WORTH;
    }

    private static int within(int v, int least, int most) {
        return Math.max(least, Math.min(most, v));
    }

    private static int kindAbove(int kind) {
        return kind >= 0 && kind < ABOVE.length ? ABOVE[kind] : -1;
    }

    private static boolean isUnder(int kind, int above) {
        int at = kind;
        for (int i = 0; i < KINDS && at >= 0; i++) {
            if (at == above) {
                return true;
            }
            at = kindAbove(at);
        }
        return false;
    }

    /** How many numbers stand ahead of the first that pull() would refuse. */
    private static int pullsIn(Row row) {
        int made = 0;
        while (made < row.size && isPile(row.at(made))) {
            made++;
        }
        return made;
    }

    private int checked(int cell) {
        trial.copyFrom(box);
        for (int i = 0; i < waiting.size; i++) {
            if (trial.grip(cell) != waiting.at(i)) {
                return 1 + i;
            }
        }
        return 0;
    }

    // ---- FEWEST, GAME, HAUL, CHANGED, SPRINGS, ODDS

    /** If the THING can be WON just by the last PULL of a row so long; THE WAY stands in its row then. */
    private static boolean leadsToWin(Box box, int thing, int[] way, int at, int length) {
        if (at < 0 || at >= length || length > way.length) {
            return false;
        }
        if (at == length - 1) {
            // Only a grip on the THING itself can win it, so the last PULL has one CELL.
            way[at] = box.cellOf(thing);
            return way[at] >= 0 && box.top(way[at]) == thing && box.does(way[at]) == WINS;
        }
        for (int cell = 1; cell < CELLS; cell++) {
            if (isLikeOneAhead(box, cell)) {
                continue;
            }
            int before = box.pulls;
            int outcome = box.grip(cell);
            int gripped = box.gripped;
            boolean leads = leadsToWin(box, thing, way, at + 1, length);
            box.takeBack(cell, outcome, gripped, before);
            if (leads) {
                way[at] = cell;
                return true;
            }
        }
        return false;
    }

    /** All grips on nothing come to the same, so the least empty CELL stands for all of them. */
    private static boolean isLikeOneAhead(Box box, int cell) {
        if (box.highOf(cell) > 0) {
            return false;
        }
        for (int ahead = 1; ahead < cell; ahead++) {
            if (box.highOf(ahead) == 0) {
                return true;
            }
        }
        return false;
    }

    /** What a player comes to by a PULL here, if the other one and both after it PULL as well as can be. */
    private static int gainAt(Box box, int cell, int left) {
        int gain = box.does(cell) == WINS ? box.likes(box.top(cell)) : 0;
        if (left <= 1) {
            return gain;
        }
        int before = box.pulls;
        int outcome = box.grip(cell);
        int gripped = box.gripped;
        gain -= bestGain(box, left - 1);
        box.takeBack(cell, outcome, gripped, before);
        return gain;
    }

    private static int bestGain(Box box, int left) {
        int best = gainAt(box, 1, left);
        for (int cell = 2; cell < CELLS; cell++) {
            if (!isLikeOneAhead(box, cell)) {
                best = Math.max(best, gainAt(box, cell, left));
            }
        }
        return best;
    }

    private static int haulOf(Box box, Row row) {
        int made = pullsIn(row);
        int haul = 0;
        for (int i = 0; i < made; i++) {
            if (box.grip(row.at(i)) == WINS) {
                haul += box.likes(box.gripped);
            }
        }
        return haul;
    }

    private static boolean fits(Row row, int spring, int weaker) {
        for (int i = 0; i + 1 < row.size; i += 2) {
            int strength = strengthAt(spring, weaker, i / 2);
            if (row.at(i + 1) != holdBy(strength, row.at(i))) {
                return false;
            }
        }
        return true;
    }

    private static int strengthAt(int spring, int weaker, int pulls) {
        return Math.max(0, spring - pulls * weaker);
    }

    /** As SPRINGS tell it: 0 it stays, 1 it is let fall, 2 it is held. */
    private static int holdBy(int strength, int needed) {
        if (strength >= needed) {
            return 2;
        }
        return 2 * strength >= needed ? 1 : 0;
    }

    /** Of how many of 16 cases the i-th grip of a ROW holds. */
    private int casesOf(Row row, int i) {
        int cell = row.at(i);
        int deep = 0;
        for (int ahead = 0; ahead < i; ahead++) {
            if (row.at(ahead) == cell) {
                deep++;
            }
        }
        int thing = box.thingAt(cell, box.highOf(cell) - 1 - deep);
        if (thing < 0) {
            return 0;
        }
        int strength = strengthAt(box.spring, box.weaker, Math.min(MOST_PULLS, box.pulls + i));
        int needs = box.needs(thing);
        return needs > 0 ? Math.min(CASES, strength * CASES / needs) : CASES;
    }

    /** Numbers in order, up to a length that is told once. */
    private static final class Row {
        private final int[] items;
        private int size;

        Row(int most) {
            items = new int[Math.max(0, most)];
        }

        boolean holds(int i) {
            return i >= 0 && i < size;
        }

        boolean holdsRun(int i, int n) {
            return i >= 0 && n >= 0 && n <= size && i <= size - n;
        }

        int at(int i) {
            return holds(i) ? items[i] : 0;
        }

        void add(int v) {
            if (size < items.length) {
                items[size] = v;
                size++;
            }
        }

        void change(int i, int v) {
            if (holds(i)) {
                items[i] = v;
            }
        }

        void clear() {
            size = 0;
        }

        void copyFrom(Row other) {
            size = Math.min(items.length, other.size);
            System.arraycopy(other.items, 0, items, 0, size);
        }

        void copyRun(int j, Row other, int i, int n) {
            if (holdsRun(j, n) && other.holdsRun(i, n)) {
                System.arraycopy(other.items, i, items, j, n);
            }
        }
    }

    /** A TEXT as steps on a stack: numbers as they are, NAMES -1 .. -4, signs less than these. */
    private static final class Text {
        private static final int LAST_NAME = -4;

        private final Row steps = new Row(MOST_BYTES);
        private final int[] stack = new int[MOST_BYTES];
        private int high;

        boolean isThere() {
            return steps.size > 0;
        }

        void clear() {
            steps.clear();
        }

        void copyFrom(Text other) {
            steps.copyFrom(other.steps);
        }

        void addNumber(int v) {
            steps.add(v);
        }

        void addName(int place) {
            steps.add(-1 - place);
        }

        void addSign(int sign) {
            steps.add(-sign);
        }

        /** What it comes to, if its NAMES, as they stand in their order, are these. */
        int value(int a, int b, int c, int d) {
            high = 0;
            for (int i = 0; i < steps.size; i++) {
                int step = steps.at(i);
                if (step >= 0) {
                    push(step);
                } else if (step >= LAST_NAME) {
                    push(named(step, a, b, c, d));
                } else if (step == -'!') {
                    push(pop() == 0 ? 1 : 0);
                } else {
                    int right = pop();
                    push(joined(-step, pop(), right));
                }
            }
            return pop();
        }

        private void push(int v) {
            if (high < stack.length) {
                stack[high] = v;
                high++;
            }
        }

        private int pop() {
            if (high <= 0) {
                return 0;
            }
            high--;
            return stack[high];
        }

        private static int named(int step, int a, int b, int c, int d) {
            switch (step) {
                case -1: return a;
                case -2: return b;
                case -3: return c;
                default: return d;
            }
        }

        private static int joined(int sign, int left, int right) {
            switch (sign) {
                case '|': return left != 0 || right != 0 ? 1 : 0;
                case '&': return left != 0 && right != 0 ? 1 : 0;
                case '<': return left < right ? 1 : 0;
                case '=': return left == right ? 1 : 0;
                case '>': return left > right ? 1 : 0;
                case '+': return left + right;
                case '-': return left - right;
                case '*': return left * right;
                case '/': return right == 0 ? 0 : left / right;
                default: return right == 0 ? 0 : left % right;
            }
        }
    }

    /** Reads a TEXT from THE TAPE, a method for each line of its grammar. */
    private static final class Reader {
        private Row tape = new Row(0);
        private String names = "";
        private Text into = new Text();
        private int at;
        private boolean faulty;

        /** The FAULT; -1: there is none, and the TEXT stands in the one that is told. */
        int read(Row from, String itsNames, Text text) {
            tape = from;
            names = itsNames;
            into = text;
            into.clear();
            at = 0;
            faulty = false;
            readAny(0);
            return faulty || at < tape.size ? at : -1;
        }

        private boolean isNext(char sign) {
            return !faulty && at < tape.size && tape.at(at) == sign;
        }

        private void readAny(int open) {
            readAll(open);
            for (int i = 0; i < MOST_BYTES && isNext('|'); i++) {
                at++;
                readAll(open);
                into.addSign('|');
            }
        }

        private void readAll(int open) {
            readCompared(open);
            for (int i = 0; i < MOST_BYTES && isNext('&'); i++) {
                at++;
                readCompared(open);
                into.addSign('&');
            }
        }

        private void readCompared(int open) {
            readSum(open);
            if (isNext('<') || isNext('=') || isNext('>')) {
                int sign = tape.at(at);
                at++;
                readSum(open);
                into.addSign(sign);
            }
        }

        private void readSum(int open) {
            readProduct(open);
            for (int i = 0; i < MOST_BYTES && (isNext('+') || isNext('-')); i++) {
                int sign = tape.at(at);
                at++;
                readProduct(open);
                into.addSign(sign);
            }
        }

        private void readProduct(int open) {
            readPart(open);
            for (int i = 0; i < MOST_BYTES && (isNext('*') || isNext('/') || isNext('%')); i++) {
                int sign = tape.at(at);
                at++;
                readPart(open);
                into.addSign(sign);
            }
        }

        private void readPart(int open) {
            if (isDigit()) {
                readNumber();
            } else if (isName()) {
                into.addName(names.indexOf((char) tape.at(at)));
                at++;
            } else if (open < MOST_OPEN && isNext('!')) {
                at++;
                readPart(open + 1);
                into.addSign('!');
            } else if (open < MOST_OPEN && isNext('(')) {
                at++;
                readAny(open + 1);
                readClosing();
            } else {
                faulty = true;
            }
        }

        private boolean isDigit() {
            return !faulty && at < tape.size && tape.at(at) >= '0' && tape.at(at) <= '9';
        }

        private boolean isName() {
            return !faulty && at < tape.size && names.indexOf((char) tape.at(at)) >= 0;
        }

        private void readNumber() {
            int number = 0;
            for (int i = 0; i < MOST_DIGITS && isDigit(); i++) {
                number = 10 * number + tape.at(at) - '0';
                at++;
            }
            into.addNumber(number);
        }

        private void readClosing() {
            if (isNext(')')) {
                at++;
            } else {
                faulty = true;
            }
        }
    }

    /** The THINGS, how they lie, the spring, the draws: all that PULLS need or change. */
    private static final class Box {
        private final Text needsText;
        private final Text likesText;
        private final int[] kinds = new int[MOST_THINGS];
        private final int[] ms = new int[MOST_THINGS];
        private final int[] worths = new int[MOST_THINGS];
        private final int[] cells = new int[MOST_THINGS];
        /** How many lie under each THING that is in a CELL. */
        private final int[] unders = new int[MOST_THINGS];
        private final int[] piles = new int[CELLS * MOST_IN_PILE];
        private final int[] highs = new int[CELLS];
        private int things;
        private int spring = 60;
        private int weaker = 1;
        private int pulls;
        private int pennies;
        private int z = 1;
        /** The THING on which the latest grip shut; -1: it shut on nothing. */
        private int gripped = -1;

        Box(Text needs, Text likes) {
            needsText = needs;
            likesText = likes;
        }

        void copyFrom(Box other) {
            System.arraycopy(other.kinds, 0, kinds, 0, MOST_THINGS);
            System.arraycopy(other.ms, 0, ms, 0, MOST_THINGS);
            System.arraycopy(other.worths, 0, worths, 0, MOST_THINGS);
            System.arraycopy(other.cells, 0, cells, 0, MOST_THINGS);
            System.arraycopy(other.unders, 0, unders, 0, MOST_THINGS);
            System.arraycopy(other.piles, 0, piles, 0, CELLS * MOST_IN_PILE);
            System.arraycopy(other.highs, 0, highs, 0, CELLS);
            things = other.things;
            spring = other.spring;
            weaker = other.weaker;
            pulls = other.pulls;
            pennies = other.pennies;
            z = other.z;
        }

        void copyWholeFrom(Box other) {
            copyFrom(other);
            needsText.copyFrom(other.needsText);
            likesText.copyFrom(other.likesText);
        }

        Text textFor(int use) {
            return use == 0 ? needsText : likesText;
        }

        boolean has(int thing) {
            return thing >= 0 && thing < things && thing < MOST_THINGS;
        }

        int kindOf(int thing) {
            return has(thing) ? kinds[thing] : THING;
        }

        int mOf(int thing) {
            return has(thing) ? ms[thing] : 0;
        }

        int worthOf(int thing) {
            return has(thing) ? worths[thing] : 0;
        }

        int cellOf(int thing) {
            return has(thing) ? cells[thing] : IS_OUT;
        }

        int highOf(int cell) {
            return isCell(cell) ? highs[cell] : 0;
        }

        int top(int cell) {
            return thingAt(cell, highOf(cell) - 1);
        }

        int thingAt(int cell, int height) {
            if (!isCell(cell) || height < 0 || height >= highs[cell] || height >= MOST_IN_PILE) {
                return -1;
            }
            return piles[MOST_IN_PILE * cell + height];
        }

        int under(int thing) {
            return cellOf(thing) >= 0 ? unders[thing] : -1;
        }

        int on(int thing) {
            int cell = cellOf(thing);
            return cell >= 0 ? highOf(cell) - 1 - unders[thing] : -1;
        }

        int add(int kind, int m, int cell) {
            int thing = things;
            if (thing < 0 || thing >= MOST_THINGS) {
                return -1;
            }
            kinds[thing] = kind;
            ms[thing] = m;
            worths[thing] = 10;
            cells[thing] = IS_OUT;
            things++;
            lower(thing, cell);
            return thing;
        }

        int become(int thing, int what, int v) {
            if (!has(thing)) {
                return -1;
            }
            int[] row = what == 0 ? kinds : what == 1 ? ms : worths;
            int was = row[thing];
            row[thing] = v;
            return was;
        }

        /** A THING that lies nowhere comes uppermost into a PILE that has room. */
        void lower(int thing, int cell) {
            int high = highOf(cell);
            if (isCell(cell) && high < MOST_IN_PILE) {
                highs[cell]++;
                place(thing, cell, high);
            }
        }

        /** A THING leaves its PILE to be WON or out, and those on it come down. */
        void take(int thing, int where) {
            int cell = cellOf(thing);
            if (!has(thing) || !isCell(cell)) {
                return;
            }
            for (int height = under(thing); height < highOf(cell) - 1; height++) {
                place(thingAt(cell, height + 1), cell, height);
            }
            highs[cell]--;
            cells[thing] = where;
        }

        void changePlaces(int one, int other) {
            int cellOfOne = cellOf(one);
            int underOne = under(one);
            place(one, cellOf(other), under(other));
            place(other, cellOfOne, underOne);
        }

        private void place(int thing, int cell, int height) {
            if (has(thing) && isCell(cell) && height >= 0 && height < MOST_IN_PILE) {
                piles[MOST_IN_PILE * cell + height] = thing;
                cells[thing] = cell;
                unders[thing] = height;
            }
        }

        int needs(int thing) {
            int m = mOf(thing);
            int plain = 20 + m;
            int on = Math.max(0, on(thing));
            switch (kindOf(thing)) {
                case BALL: return plain + 10;
                case MELON: return plain + 10 + m;
                case BEAR: return plain - 8;
                case BLUE: return plain - 8 + 2 * on;
                case SLIPPERY: return 2 * plain;
                case TOLD:
                    if (needsText.isThere()) {
                        int under = Math.max(0, under(thing));
                        return within(needsText.value(m, on, under, cellOf(thing)), 1, 99);
                    }
                    return plain;
                default: return plain;
            }
        }

        int likes(int thing) {
            if (!likesText.isThere()) {
                return worthOf(thing);
            }
            return within(likesText.value(worthOf(thing), kindOf(thing), mOf(thing), 0), -999, 999);
        }

        int strength() {
            return strengthAt(spring, weaker, pulls);
        }

        /** The next CELL on the way to THE CHUTE. */
        private static int nearer(int cell) {
            return cell % COLUMNS != 0 ? cell - 1 : cell - COLUMNS;
        }

        /** What a PULL would do now. */
        int does(int cell) {
            int thing = top(cell);
            if (thing < 0) {
                return STAYS;
            }
            int hold = holdBy(strength(), needs(thing));
            if (hold != 1) {
                return hold == 2 ? WINS : STAYS;
            }
            int next = nearer(cell);
            if (next == CHUTE) {
                return WINS;
            }
            return highOf(next) >= MOST_IN_PILE ? DROPS_BACK : DROPS;
        }

        /** A PULL: what it does. */
        int grip(int cell) {
            int outcome = does(cell);
            gripped = top(cell);
            if (outcome == WINS) {
                take(gripped, IS_WON);
            } else if (outcome == DROPS) {
                take(gripped, IS_OUT);
                lower(gripped, nearer(cell));
            }
            pennies = Math.min(MOST_PENNIES, pennies + 1);
            pulls = Math.min(MOST_PULLS, pulls + 1);
            return outcome;
        }

        /** Undoes the latest grip but for the penny, which what would be doesn't count. */
        void takeBack(int cell, int outcome, int thing, int pullsBefore) {
            if (outcome == DROPS) {
                take(thing, IS_OUT);
            }
            if (outcome == DROPS || outcome == WINS) {
                lower(thing, cell);
            }
            pulls = pullsBefore;
        }

        int draw() {
            z = z * 1103515245 + 12345;
            return z >>> 8;
        }

        int howManyWon() {
            int won = 0;
            for (int thing = 0; thing < things; thing++) {
                if (cellOf(thing) == IS_WON) {
                    won++;
                }
            }
            return won;
        }

        int worthOfWon() {
            int worth = 0;
            for (int thing = 0; thing < things; thing++) {
                if (cellOf(thing) == IS_WON) {
                    worth += worthOf(thing);
                }
            }
            return worth;
        }
    }

    /** The VOICES: which BODY speaks for a KIND, and what it says. */
    private static final class Voices {
        private static final int LIES = 0;
        private static final int ROLLS = 1;
        private static final int FALLS = 2;
        private static final int PARTS = 3;
        private static final int EACH = 4;
        /** The deepest chain of BODIES that there is has six. */
        private static final int DEEPEST = 12;
        /** A row of EACH for each KIND; 0: it has none of its own. */
        private static final int[] BODIES = {
            10, 11, 12, 13,
            20, 0, 0, 21,
            0, 30, 0, 0,
            0, 0, 40, 0,
            50, 0, 51, 0,
            0, 60, 0, 0,
            70, 71, 0, 0};

        private final Row trace = new Row(MOST_TRACE);
        private int kind;
        private int number;
        private int m;
        private boolean parted;
        private int answer;

        /** False if it is PARTED. THE TRACE tells of the latest VOICE even then: its BODIES did begin. */
        boolean begin(int itsKind, int itsNumber, int itsM, int voice, int x) {
            kind = itsKind;
            number = itsNumber;
            m = itsM;
            parted = false;
            trace.clear();
            answer = speak(itsKind, voice, x, 0);
            return !parted;
        }

        private static int bodyOf(int kind, int voice) {
            int place = EACH * kind + voice;
            return place >= 0 && place < BODIES.length ? BODIES[place] : 0;
        }

        /** The BODY of a KIND, or of the next KIND above that has one, speaks. */
        private int speak(int from, int voice, int x, int depth) {
            int owner = from;
            for (int i = 0; i < KINDS && owner > THING && bodyOf(owner, voice) == 0; i++) {
                owner = kindAbove(owner);
            }
            if (parted || depth > DEEPEST) {
                return 0;
            }
            int body = bodyOf(owner, voice);
            trace.add(body);
            return say(body, kindAbove(owner), x, depth + 1);
        }

        private int say(int body, int above, int x, int depth) {
            switch (body) {
                case 10: return x + number;
                case 11: return speak(kind, LIES, x, depth) * 2;
                case 12: return speak(kind, ROLLS, x, depth) - m;
                case 13: return part(x);
                case 20: return speak(above, LIES, x, depth) - 3;
                case 21: {
                    int parts = speak(above, PARTS, x, depth);
                    return parts + speak(kind, ROLLS, 1, depth);
                }
                case 30: return 0 - speak(above, ROLLS, x, depth);
                case 40: return speak(above, FALLS, x / 2, depth);
                case 50: return speak(above, LIES, x, depth) * 3;
                case 51: return speak(above, FALLS, x, depth) ^ number;
                case 60: return speak(above, ROLLS, x + 1, depth);
                case 70: return 4;
                case 71: return speak(above, ROLLS, x, depth) + m;
                default: return 0;
            }
        }

        private int part(int x) {
            int by = m - number;
            if (by == 0) {
                parted = true;
                return 0;
            }
            return x / by;
        }
    }
}
