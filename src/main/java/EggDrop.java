/** A box of layers on four sides, the egg in it, and its falls, as ../shared/DOC.md tells them. */
public final class EggDrop {
    public static final int NONE = -1, BAD = -2, STATE = -3, FULL = -4;
    public static final long NO = Long.MIN_VALUE;

    private static final int NOTHING = -5, OTHER_KIND = -6, FAULT_BASE = -10;
    private static final int SIDES = 4, TOP_FLOOR = 20, TOP_TRY = 9999;
    private static final int TOP_BEAR = 99, PLAIN_BEAR = 20, PLAIN_TURN = 1;
    private static final int MAX_SCHOOLS = 5, MAX_EGGS = 4, MAX_TRIES = 99, MAX_FORCE = 9999;

    private final Box box = new Box();
    private final Box kept = new Box();
    private boolean hasKept = false;
    // The one at 0 has no clauses and stands for "no school"; school n is at n + 1.
    private final School[] schools = new School[MAX_SCHOOLS + 1];
    private final Reader reader = new Reader();
    private final Fall latest = new Fall();
    private final Acts acts = new Acts();
    private final boolean[] fits = new boolean[TOP_BEAR + 1];

    public EggDrop() {
        for (int i = 0; i < schools.length; i++) {
            schools[i] = new School();
        }
    }

    // ---- schools, layers, eggs

    public int feed(int sign) {
        if (sign < 0 || sign > 127) {
            return BAD;
        }
        return box.tape.put(sign) ? box.tape.size : FULL;
    }

    public int school() {
        int next = box.schools + 1;
        if (next < 1 || next >= schools.length) {
            return FULL;
        }
        int fault = reader.read(box.tape);
        box.tape.size = 0;
        if (fault >= 0) {
            return FAULT_BASE - fault;
        }
        schools[next].copyFrom(reader.draft);
        box.schools = next;
        return next - 1;
    }

    public int layer(int kind, int v, int thick, int weight, int side) {
        if (!isKind(kind) || !isSide(side)) {
            return NONE;
        }
        if (v < 0 || v > 9 || thick < 1 || thick > 9 || weight < 0 || weight > 20) {
            return BAD;
        }
        return box.layers.add(kind, v, thick, weight, side);
    }

    public int of(int layer, int what) {
        Layers all = box.layers;
        if (!all.has(layer)) {
            return NONE;
        }
        switch (what) {
            case 0: return all.kind[layer];
            case 1: return all.v[layer];
            case 2: return all.thick[layer];
            case 3: return all.weight[layer];
            case 4: return all.place[layer];
            case 5: return all.isBroken(layer) ? 1 : 0;
            case 6: return price(layer);
            default: return NONE;
        }
    }

    public int side(int layer, int side) {
        if (!box.layers.has(layer) || !isSide(side)) {
            return NONE;
        }
        int was = box.layers.place[layer];
        box.layers.place[layer] = side;
        return was;
    }

    public int broken(int layer, boolean is) {
        if (!box.layers.has(layer)) {
            return NONE;
        }
        boolean was = box.layers.isBroken(layer);
        box.layers.mark(layer, is);
        return was ? 1 : 0;
    }

    public int row(int layer, int k, int n) {
        Layers all = box.layers;
        if (!all.has(layer) || k < 0 || k >= Layers.ROW) {
            return NONE;
        }
        if (n < 0 || n > 9) {
            return BAD;
        }
        if (all.kind[layer] != Layers.TOLD) {
            return STATE;
        }
        int at = layer * Layers.ROW + k;
        int was = all.rows[at];
        all.rows[at] = n;
        return was;
    }

    public int egg() {
        int was = box.egg.whole ? box.egg.cracks : NOTHING;
        box.egg.renew();
        return was;
    }

    public int told(int what) {
        switch (what) {
            case 0: return box.tries;
            case 1: return bear();
            case 2: return holding().last(School.TURN, PLAIN_TURN);
            case 3: return box.egg.cracks;
            case 4: return box.egg.whole ? 1 : 0;
            case 5: return box.layers.weightWithout(0);
            case 6: return prices();
            case 7: return box.layers.brokenBits;
            default: return NONE;
        }
    }

    // ---- falls

    public int drop(int floor, int side) {
        if (!isFloor(floor) || !isSide(side)) {
            return NONE;
        }
        if (!box.egg.whole || box.tries >= TOP_TRY) {
            return STATE;
        }
        letFall(floor, side, 0, 0);
        box.egg.copyFrom(latest.egg);
        box.layers.brokenBits = latest.brokenBits;
        box.tries++;
        return latest.force();
    }

    public int fall(int floor, int side, int what) {
        if (!isFloor(floor) || !isSide(side)) {
            return NONE;
        }
        letFall(floor, side, 0, 0);
        switch (what) {
            case 0: return latest.force();
            case 1: return latest.lands;
            case 2: return latest.egg.whole ? 1 : 0;
            case 3: return latest.egg.cracks;
            case 4: return latest.brokenBits;
            default: return NONE;
        }
    }

    public int highest(int side) {
        if (!isSide(side)) {
            return NONE;
        }
        for (int floor = 0; floor <= TOP_FLOOR; floor++) {
            if (!staysWhole(floor, side, 0, 0)) {
                return floor == 0 ? NOTHING : floor - 1;
            }
        }
        return TOP_FLOOR;
    }

    public int best(int floor, int what) {
        if (!isFloor(floor) || what < 0 || what > 1) {
            return NONE;
        }
        int bestSide = 0;
        int least = forceOf(floor, 0);
        for (int side = 1; side < SIDES; side++) {
            int force = forceOf(floor, side);
            if (force < least) {
                least = force;
                bestSide = side;
            }
        }
        return what == 0 ? bestSide : least;
    }

    // ---- boxes

    public int lighter(int floor, int side, int what) {
        if (!isFloor(floor) || !isSide(side) || what < 0 || what > 1) {
            return NONE;
        }
        int bestSet = NOTHING;
        int least = NOTHING;
        int all = box.layers.allBits();
        for (int set = 0; set <= all; set++) {
            int weight = box.layers.weightWithout(set);
            if ((bestSet < 0 || weight < least) && staysWhole(floor, side, 0, set)) {
                bestSet = set;
                least = weight;
            }
        }
        return what == 0 ? bestSet : least;
    }

    public int shift(int floor, int side) {
        if (!isFloor(floor) || !isSide(side)) {
            return NONE;
        }
        int least = forceOf(floor, side);
        int answer = NOTHING;
        for (int i = 0; i < box.layers.size * SIDES && i < Layers.MAX * SIDES; i++) {
            int force = forceWithShifted(i / SIDES, i % SIDES, floor, side);
            if (force < least) {
                least = force;
                answer = 10 * (i / SIDES) + i % SIDES;
            }
        }
        return answer;
    }

    public int tries(int eggs, int floors) {
        if (eggs < 1 || eggs > MAX_EGGS || floors < 0 || floors > MAX_TRIES) {
            return BAD;
        }
        // One egg alone needs as many falls as there are floors: no more are ever needed.
        for (int falls = 0; falls < floors; falls++) {
            if (floorsTold(falls, eggs) >= floors) {
                return falls;
            }
        }
        return floors;
    }

    public int failed(int side, int set) {
        if (!isSide(side)) {
            return NONE;
        }
        if ((set & ~box.layers.allBits()) != 0) {
            return BAD;
        }
        int floors = 0;
        for (int floor = 0; floor <= TOP_FLOOR; floor++) {
            letFall(floor, side, 0, 0);
            if (latest.brokenBits == set) {
                floors |= 1 << floor;
            }
        }
        return floors;
    }

    // ---- seen, odds, books

    public int see(int floor, int side, boolean whole) {
        return write(box.seen, floor, side, whole ? 1 : 0);
    }

    public int strong(int what) {
        if (what < 0 || what > 1) {
            return NONE;
        }
        findFits();
        for (int i = 0; i < fits.length; i++) {
            int bear = what == 0 ? i : fits.length - 1 - i;
            if (fits[bear]) {
                return bear;
            }
        }
        return NOTHING;
    }

    public long odds(int floor, int part) {
        if (!isFloor(floor) || part < 0 || part > 1) {
            return NO;
        }
        int whole = 0;
        for (int i = 0; i < SIDES * 10; i++) {
            if (staysWhole(floor, i / 10, i % 10, 0)) {
                whole++;
            }
        }
        return inLowestTerms(whole, SIDES * 10, part);
    }

    public long mean(int floor, int part) {
        if (!isFloor(floor) || part < 0 || part > 1) {
            return NO;
        }
        int sum = 0;
        for (int side = 0; side < SIDES; side++) {
            sum += forceOf(floor, side);
        }
        return inLowestTerms(sum, SIDES, part);
    }

    public int book(int floor, int side, int force) {
        boolean isRow = isFloor(floor) && isSide(side);
        if (isRow && (force < 0 || force > MAX_FORCE)) {
            return BAD;
        }
        return write(box.booked, floor, side, force);
    }

    public int looked() {
        Sheet rows = box.booked;
        for (int i = 0; i < rows.size && i < Sheet.MAX; i++) {
            if (forceOf(rows.floor[i], rows.below[i]) != rows.value[i]) {
                return i;
            }
        }
        return NOTHING;
    }

    // ---- acts, the image

    public int act(int layer, int act, int x) {
        acts.clear();
        if (!box.layers.has(layer)) {
            return 0;
        }
        acts.take(box.layers, layer);
        switch (act) {
            case 0: return acts.gives(x);
            case 1: return acts.takes(x);
            case 2: return acts.tells(x);
            default: return 0;
        }
    }

    public int trace(int i) {
        if (i < 0 || i >= acts.ran || i >= Acts.KEPT) {
            return NONE;
        }
        return acts.bodies[i];
    }

    public int as(int layer, int k) {
        if (!box.layers.has(layer) || !isKind(k)) {
            return NONE;
        }
        return Layers.isUnder(box.layers.kind[layer], k) ? box.layers.v[layer] : OTHER_KIND;
    }

    public int image() {
        kept.copyFrom(box);
        hasKept = true;
        return box.layers.size;
    }

    public int undo() {
        if (!hasKept) {
            return STATE;
        }
        box.copyFrom(kept);
        return box.layers.size;
    }

    public int count(int what) {
        switch (what) {
            case 0: return box.layers.size;
            case 1: return box.schools;
            case 2: return box.seen.size;
            case 3: return box.booked.size;
            case 4: return box.tape.size;
            case 5: return acts.ran;
            default: return NONE;
        }
    }

    // ---- what the calls share

    private static boolean isFloor(int floor) {
        return floor >= 0 && floor <= TOP_FLOOR;
    }

    private static boolean isSide(int side) {
        return side >= 0 && side < SIDES;
    }

    private static boolean isKind(int kind) {
        return kind >= 0 && kind < Layers.KINDS;
    }

    private School holding() {
        int at = box.schools;
        return at >= 0 && at < schools.length ? schools[at] : schools[0];
    }

    private int bear() {
        return holding().last(School.BEAR, PLAIN_BEAR);
    }

    private int price(int layer) {
        Layers all = box.layers;
        School school = holding();
        school.setTest(0, all.place[layer], all.kind[layer], all.thick[layer], box.tries % 10);
        return school.sum(School.PRICE);
    }

    private int prices() {
        int sum = 0;
        for (int i = 0; i < box.layers.size && i < Layers.MAX; i++) {
            sum += price(i);
        }
        return sum;
    }

    private void letFall(int floor, int side, int added, int without) {
        latest.happen(box, holding(), floor, side, added, without);
        latest.meet(box.egg, bear());
    }

    private boolean staysWhole(int floor, int side, int added, int without) {
        letFall(floor, side, added, without);
        return latest.egg.whole;
    }

    private int forceOf(int floor, int side) {
        latest.happen(box, holding(), floor, side, 0, 0);
        return latest.force();
    }

    private int forceWithShifted(int layer, int to, int floor, int side) {
        int was = box.layers.place[layer];
        box.layers.place[layer] = to;
        int force = forceOf(floor, side);
        box.layers.place[layer] = was;
        return force;
    }

    /** How many floors can be told apart by so many falls of so many eggs. */
    private static int floorsTold(int falls, int eggs) {
        int chosen = 1;
        int sum = 0;
        // The binomials of falls over 1 .. eggs: a tree of falls has a leaf for each way to break at most all eggs.
        for (int broken = 1; broken <= eggs && broken <= MAX_EGGS; broken++) {
            chosen = chosen * (falls - broken + 1) / broken;
            sum += chosen;
        }
        return sum;
    }

    private void findFits() {
        for (int bear = 0; bear < fits.length; bear++) {
            fits[bear] = true;
        }
        Sheet rows = box.seen;
        for (int i = 0; i < rows.size && i < Sheet.MAX; i++) {
            latest.happen(box, holding(), rows.floor[i], rows.below[i], 0, 0);
            for (int bear = 0; bear < fits.length; bear++) {
                latest.meetNew(bear);
                fits[bear] &= latest.egg.whole == (rows.value[i] == 1);
            }
        }
    }

    /** A row comes to what was told by hand, or, by the floor -1, all rows go. */
    private static int write(Sheet rows, int floor, int side, int value) {
        if (floor == -1) {
            rows.size = 0;
            return 0;
        }
        if (!isFloor(floor) || !isSide(side)) {
            return NONE;
        }
        return rows.add(floor, side, value) ? rows.size : FULL;
    }

    private static long inLowestTerms(int above, int below, int part) {
        for (int by = below; by > 1; by--) {
            if (above % by == 0 && below % by == 0) {
                return part == 0 ? above / by : below / by;
            }
        }
        return part == 0 ? above : below;
    }

    /** All that there is but the image and the trace. */
    private static final class Box {
        final Tape tape = new Tape();
        final Layers layers = new Layers();
        final Egg egg = new Egg();
        final Sheet seen = new Sheet();
        final Sheet booked = new Sheet();
        // Of the schools the number is enough: a new one is written behind the newest,
        // and the image never has more of them than the box, so none of its own changes.
        int schools = 0;
        int tries = 0;

        void copyFrom(Box other) {
            tape.copyFrom(other.tape);
            layers.copyFrom(other.layers);
            egg.copyFrom(other.egg);
            seen.copyFrom(other.seen);
            booked.copyFrom(other.booked);
            schools = other.schools;
            tries = other.tries;
        }
    }

    private static final class Tape {
        static final int MAX = 100;

        final int[] signs = new int[MAX];
        int size = 0;

        boolean put(int sign) {
            if (size < 0 || size >= MAX) {
                return false;
            }
            signs[size] = sign;
            size++;
            return true;
        }

        void copyFrom(Tape other) {
            System.arraycopy(other.signs, 0, signs, 0, MAX);
            size = other.size;
        }
    }

    private static final class Layers {
        static final int MAX = 8, ROW = 3, KINDS = 7;
        static final int LAYER = 0, CRUMPLED = 1, STANDING = 2, HUNG = 3, LOOSE = 4, STIFF = 5, TOLD = 6;

        private static final int[] ABOVE = {-1, LAYER, LAYER, LAYER, CRUMPLED, STANDING, HUNG};

        final int[] kind = new int[MAX];
        final int[] v = new int[MAX];
        final int[] thick = new int[MAX];
        final int[] weight = new int[MAX];
        final int[] place = new int[MAX];
        final int[] rows = new int[MAX * ROW];
        int brokenBits = 0;
        int size = 0;

        static boolean isUnder(int kind, int top) {
            int at = kind;
            for (int step = 0; step < KINDS && at >= 0 && at < KINDS; step++) {
                if (at == top) {
                    return true;
                }
                at = ABOVE[at];
            }
            return false;
        }

        boolean has(int layer) {
            return layer >= 0 && layer < size && layer < MAX;
        }

        boolean isBroken(int layer) {
            return (brokenBits >> layer & 1) == 1;
        }

        int allBits() {
            return (1 << size) - 1;
        }

        int add(int newKind, int newV, int newThick, int newWeight, int newPlace) {
            if (size < 0 || size >= MAX) {
                return FULL;
            }
            int i = size;
            kind[i] = newKind;
            v[i] = newV;
            thick[i] = newThick;
            weight[i] = newWeight;
            place[i] = newPlace;
            size++;
            return i;
        }

        void mark(int layer, boolean is) {
            brokenBits = is ? brokenBits | 1 << layer : brokenBits & ~(1 << layer);
        }

        int weightWithout(int set) {
            int sum = 0;
            for (int i = 0; i < size && i < MAX; i++) {
                if ((set >> i & 1) == 0) {
                    sum += weight[i];
                }
            }
            return sum;
        }

        void copyFrom(Layers other) {
            System.arraycopy(other.kind, 0, kind, 0, MAX);
            System.arraycopy(other.v, 0, v, 0, MAX);
            System.arraycopy(other.thick, 0, thick, 0, MAX);
            System.arraycopy(other.weight, 0, weight, 0, MAX);
            System.arraycopy(other.place, 0, place, 0, MAX);
            System.arraycopy(other.rows, 0, rows, 0, MAX * ROW);
            brokenBits = other.brokenBits;
            size = other.size;
        }
    }

    private static final class Egg {
        int cracks = 0;
        boolean whole = true;

        void renew() {
            cracks = 0;
            whole = true;
        }

        void land(int force, int bear) {
            if (!whole) {
                return;
            }
            int bears = Math.max(0, bear - 3 * cracks);
            if (force > bears) {
                whole = false;
            } else if (2 * force > bears) {
                cracks++;
            }
        }

        void copyFrom(Egg other) {
            cracks = other.cracks;
            whole = other.whole;
        }
    }

    /** Rows told by hand: a floor, a side below, and what was there. */
    private static final class Sheet {
        static final int MAX = 8;

        final int[] floor = new int[MAX];
        final int[] below = new int[MAX];
        final int[] value = new int[MAX];
        int size = 0;

        boolean add(int newFloor, int newBelow, int newValue) {
            if (size < 0 || size >= MAX) {
                return false;
            }
            floor[size] = newFloor;
            below[size] = newBelow;
            value[size] = newValue;
            size++;
            return true;
        }

        void copyFrom(Sheet other) {
            System.arraycopy(other.floor, 0, floor, 0, MAX);
            System.arraycopy(other.below, 0, below, 0, MAX);
            System.arraycopy(other.value, 0, value, 0, MAX);
            size = other.size;
        }
    }

    /** What a text was read into: clauses, each with its condition as steps, an operator behind its parts. */
    private static final class School {
        static final int BEAR = 0, TURN = 1, WIND = 2, PRICE = 3;
        static final int MAX = 10;
        // A step that is 0 or more is a test; every step took a sign of the tape at least.
        static final int NOT = -1, AND = -2, OR = -3;
        static final int PER_SIGN = 100, PER_LETTER = 300;
        static final int LESS = 0, EQUAL = 1;

        final int[] words = new int[MAX];
        final int[] numbers = new int[MAX];
        final int[] ends = new int[MAX];
        final int[] steps = new int[Tape.MAX];
        final int[] values = new int[5];
        int clauses = 0;
        int size = 0;

        void clear() {
            clauses = 0;
            size = 0;
        }

        void copyFrom(School other) {
            System.arraycopy(other.words, 0, words, 0, MAX);
            System.arraycopy(other.numbers, 0, numbers, 0, MAX);
            System.arraycopy(other.ends, 0, ends, 0, MAX);
            System.arraycopy(other.steps, 0, steps, 0, Tape.MAX);
            clauses = other.clauses;
            size = other.size;
        }

        void addStep(int step) {
            if (size >= 0 && size < Tape.MAX) {
                steps[size] = step;
                size++;
            }
        }

        void addClause(int word, int number) {
            if (clauses >= 0 && clauses < MAX) {
                words[clauses] = word;
                numbers[clauses] = number;
                ends[clauses] = size;
                clauses++;
            }
        }

        int last(int word, int without) {
            int n = without;
            for (int i = 0; i < clauses && i < MAX; i++) {
                if (words[i] == word) {
                    n = numbers[i];
                }
            }
            return n;
        }

        void setTest(int f, int s, int k, int t, int y) {
            values[0] = f;
            values[1] = s;
            values[2] = k;
            values[3] = t;
            values[4] = y;
        }

        /** The numbers of all clauses of a word whose condition holds for what was set. */
        int sum(int word) {
            int all = 0;
            int from = 0;
            for (int i = 0; i < clauses && i < MAX; i++) {
                if (words[i] == word && holds(from, ends[i])) {
                    all += numbers[i];
                }
                from = ends[i];
            }
            return all;
        }

        private boolean holds(int from, int end) {
            // The bits are a stack, its top below: at most three wait for each thing that is open.
            int stack = 0;
            for (int i = from; i >= 0 && i < end && i < Tape.MAX; i++) {
                int step = steps[i];
                int top = stack & 1;
                if (step >= 0) {
                    stack = stack << 1 | (passes(step) ? 1 : 0);
                } else if (step == NOT) {
                    stack ^= 1;
                } else if (step == AND) {
                    stack = stack >> 1 & (top | ~1);
                } else {
                    stack = stack >> 1 | top;
                }
            }
            return (stack & 1) == 1;
        }

        private boolean passes(int step) {
            int letter = step / PER_LETTER;
            if (letter < 0 || letter >= values.length) {
                return false;
            }
            int sign = step % PER_LETTER / PER_SIGN;
            int number = step % PER_SIGN;
            if (sign == LESS) {
                return values[letter] < number;
            }
            return sign == EQUAL ? values[letter] == number : values[letter] > number;
        }
    }

    /** Reads a tape; where it stops short is the first sign with which no school can go on. */
    private static final class Reader {
        private static final int MAX_OPEN = 5;
        private static final String LETTERS = "fskty", SIGNS = "<=>";

        final School draft = new School();
        private int[] signs = new int[0];
        private int size = 0;
        private int at = 0;

        /** The place of the fault, or -1. */
        int read(Tape tape) {
            signs = tape.signs;
            size = Math.min(tape.size, signs.length);
            at = 0;
            draft.clear();
            for (int clauses = 1; clauses <= School.MAX; clauses++) {
                if (!readClause()) {
                    return at;
                }
                if (at == size) {
                    return -1;
                }
                if (clauses == School.MAX || !pass(';')) {
                    return at;
                }
            }
            return at;
        }

        /** The sign that comes, or -1 behind all. */
        private int next() {
            return at >= 0 && at < size && at < signs.length ? signs[at] : -1;
        }

        private boolean pass(int sign) {
            if (next() != sign) {
                return false;
            }
            at++;
            return true;
        }

        private boolean passAll(String text) {
            for (int i = 0; i < text.length(); i++) {
                if (!pass(text.charAt(i))) {
                    return false;
                }
            }
            return true;
        }

        private boolean readClause() {
            int word = readWord();
            int number = word < 0 ? -1 : readNumber();
            if (number < 0) {
                return false;
            }
            boolean hasCondition = word == School.WIND || word == School.PRICE;
            if (hasCondition && !(pass(' ') && readAny(0))) {
                return false;
            }
            draft.addClause(word, number);
            return true;
        }

        private int readWord() {
            switch (next()) {
                case 'b': return passAll("bear ") ? School.BEAR : -1;
                case 't': return passAll("turn ") ? School.TURN : -1;
                case 'w': return passAll("wind ") ? School.WIND : -1;
                case 'p': return passAll("price ") ? School.PRICE : -1;
                default: return -1;
            }
        }

        /** One or two digits, or -1; a 0 ends the number, so that a digit behind it is the fault. */
        private int readNumber() {
            int first = next() - '0';
            if (first < 0 || first > 9) {
                return -1;
            }
            at++;
            int second = next() - '0';
            if (first == 0 || second < 0 || second > 9) {
                return first;
            }
            at++;
            return first * 10 + second;
        }

        /** Parts with | between, each of parts with & between. */
        private boolean readAny(int open) {
            for (int parts = 0; parts < Tape.MAX; parts++) {
                if (!readOne(open)) {
                    return false;
                }
                for (int i = 0; i < Tape.MAX && pass('&'); i++) {
                    if (!readOne(open)) {
                        return false;
                    }
                    draft.addStep(School.AND);
                }
                if (parts > 0) {
                    draft.addStep(School.OR);
                }
                if (!pass('|')) {
                    return true;
                }
            }
            return false;
        }

        private boolean readOne(int open) {
            int sign = next();
            if (sign != '!' && sign != '(') {
                return readTest();
            }
            if (open < 0 || open >= MAX_OPEN) {
                return false;
            }
            at++;
            if (sign == '(') {
                return readAny(open + 1) && pass(')');
            }
            if (!readOne(open + 1)) {
                return false;
            }
            draft.addStep(School.NOT);
            return true;
        }

        private boolean readTest() {
            int letter = readOneOf(LETTERS);
            int sign = letter < 0 ? -1 : readOneOf(SIGNS);
            int number = sign < 0 ? -1 : readNumber();
            if (number < 0) {
                return false;
            }
            draft.addStep(letter * School.PER_LETTER + sign * School.PER_SIGN + number);
            return true;
        }

        private int readOneOf(String some) {
            int sign = next();
            for (int i = 0; i < some.length(); i++) {
                if (some.charAt(i) == sign) {
                    at++;
                    return i;
                }
            }
            return -1;
        }
    }

    /** One fall of a box, and what it makes of an egg; the box stays as it is. */
    private static final class Fall {
        private static final int BOUNCES_ABOVE = 20;

        final Egg egg = new Egg();
        int lands = 0;
        int brokenBits = 0;
        private Layers layers = new Layers();
        private int tries = 0;
        private int floor = 0;
        private int without = 0;
        private int first = 0;
        private int second = 0;
        private boolean bounces = false;

        void happen(Box box, School school, int fromFloor, int below, int added, int leftOut) {
            layers = box.layers;
            tries = box.tries;
            floor = fromFloor;
            without = leftOut;
            brokenBits = layers.brokenBits;
            lands = (below + school.last(School.TURN, PLAIN_TURN) * floor) % SIDES;
            int weight = layers.weightWithout(leftOut) / 10;
            school.setTest(floor, lands, 9, weight, tries % 10);
            int blow = 5 * floor + school.sum(School.WIND) + weight + added;
            first = goThrough(lands, blow);
            bounces = blow > BOUNCES_ABOVE;
            second = bounces ? goThrough((lands + 1) % SIDES, blow / 2) : 0;
        }

        int force() {
            return Math.max(first, second);
        }

        void meet(Egg before, int bear) {
            egg.copyFrom(before);
            landAll(bear);
        }

        void meetNew(int bear) {
            egg.renew();
            landAll(bear);
        }

        private void landAll(int bear) {
            egg.land(first, bear);
            if (bounces) {
                egg.land(second, bear);
            }
        }

        private int goThrough(int side, int blow) {
            int left = blow;
            for (int i = 0; i < layers.size && i < Layers.MAX; i++) {
                boolean isThere = ((brokenBits | without) >> i & 1) == 0;
                if (isThere && layers.place[i] == side) {
                    left = Math.max(0, left - takenBy(i, left));
                }
            }
            return left;
        }

        private int takenBy(int i, int left) {
            int thick = layers.thick[i];
            switch (layers.kind[i]) {
                case Layers.CRUMPLED: return crumpled(thick, left);
                case Layers.STANDING: return standing(i, left, 0);
                case Layers.HUNG: return hung(thick, left);
                case Layers.LOOSE: return floor % 2 == 1 ? 0 : crumpled(thick, left);
                case Layers.STIFF: return standing(i, left, layers.v[i]);
                case Layers.TOLD: return hung(thick, left) + layers.rows[i * Layers.ROW + tries % Layers.ROW];
                default: return thick;
            }
        }

        private static int crumpled(int thick, int left) {
            return left > 20 ? 2 * thick : thick;
        }

        private static int hung(int thick, int left) {
            return left <= 10 * thick ? left / 2 : thick;
        }

        private int standing(int i, int left, int moreIfItHolds) {
            int taken = 3 * layers.thick[i];
            if (left > 10 * layers.v[i]) {
                brokenBits |= 1 << i;
                return taken;
            }
            return taken + moreIfItHolds;
        }
    }

    /** The bodies that run in an act; each method runs its kind's body and those that it calls by super. */
    private static final class Acts {
        static final int KEPT = 20;

        final int[] bodies = new int[KEPT];
        int ran = 0;
        private int kind = 0;
        private int v = 0;
        private int number = 0;

        void clear() {
            ran = 0;
        }

        void take(Layers layers, int layer) {
            kind = layers.kind[layer];
            v = layers.v[layer];
            number = layer;
        }

        private void begin(int body) {
            if (ran >= 0 && ran < KEPT) {
                bodies[ran] = body;
            }
            ran++;
        }

        int gives(int x) {
            switch (kind) {
                case Layers.CRUMPLED:
                case Layers.LOOSE:
                    begin(11);
                    begin(1);
                    return x * 3 + number;
                case Layers.STIFF:
                    begin(51);
                    begin(1);
                    return (x + number) ^ number;
                default:
                    begin(1);
                    return x + number;
            }
        }

        int takes(int x) {
            switch (kind) {
                case Layers.STANDING:
                case Layers.STIFF:
                    begin(21);
                    return -takesAtTop(x);
                case Layers.TOLD:
                    begin(61);
                    return takesAtTop(x) + v;
                default:
                    return takesAtTop(x);
            }
        }

        int tells(int x) {
            switch (kind) {
                case Layers.HUNG:
                case Layers.TOLD:
                    begin(31);
                    return tellsAtTop(x) ^ 7;
                case Layers.LOOSE:
                    begin(41);
                    return tellsAtTop(x - 1) + gives(2);
                default:
                    return tellsAtTop(x);
            }
        }

        private int takesAtTop(int x) {
            begin(2);
            return gives(x) - v;
        }

        private int tellsAtTop(int x) {
            begin(3);
            return takes(x) * 2;
        }
    }
}
