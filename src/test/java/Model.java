import java.math.BigInteger;
import java.util.ArrayList;
import java.util.Arrays;
import java.util.List;
import java.util.TreeSet;
import java.util.function.Predicate;

/**
 * The document once more, in another way than the program's: kinds are Java classes, conditions are trees of
 * predicates, faults are found by trying every beginning of a text, and every question works on a copy.
 */
final class Model {
    // ---- kinds

    static class Layer implements Cloneable {
        int number, v, thick, weight, side;
        boolean isBroken;
        int[] row = {0, 0, 0};
        List<Integer> trace;

        int takesOf(int left, int floor, int tries) {
            return thick;
        }

        int gives(int x) {
            trace.add(1);
            return x + number;
        }

        int takes(int x) {
            trace.add(2);
            return gives(x) - v;
        }

        int tells(int x) {
            trace.add(3);
            return takes(x) * 2;
        }

        Layer copy() {
            try {
                Layer other = (Layer) clone();
                other.row = row.clone();
                return other;
            } catch (CloneNotSupportedException e) {
                throw new IllegalStateException(e);
            }
        }
    }

    static class Crumpled extends Layer {
        @Override int takesOf(int left, int floor, int tries) {
            return (left > 20 ? 2 : 1) * thick;
        }

        @Override int gives(int x) {
            trace.add(11);
            return super.gives(x * 3);
        }
    }

    static class Standing extends Layer {
        @Override int takesOf(int left, int floor, int tries) {
            isBroken = left > 10 * v;
            return 3 * thick;
        }

        @Override int takes(int x) {
            trace.add(21);
            return -super.takes(x);
        }
    }

    static class Hung extends Layer {
        @Override int takesOf(int left, int floor, int tries) {
            return left > 10 * thick ? thick : left / 2;
        }

        @Override int tells(int x) {
            trace.add(31);
            return super.tells(x) ^ 7;
        }
    }

    static final class Loose extends Crumpled {
        @Override int takesOf(int left, int floor, int tries) {
            return floor % 2 == 1 ? 0 : super.takesOf(left, floor, tries);
        }

        @Override int tells(int x) {
            trace.add(41);
            return super.tells(x - 1) + gives(2);
        }
    }

    static final class Stiff extends Standing {
        @Override int takesOf(int left, int floor, int tries) {
            int taken = super.takesOf(left, floor, tries);
            return isBroken ? taken : taken + v;
        }

        @Override int gives(int x) {
            trace.add(51);
            return super.gives(x) ^ number;
        }
    }

    static final class Told extends Hung {
        @Override int takesOf(int left, int floor, int tries) {
            return super.takesOf(left, floor, tries) + row[tries % 3];
        }

        @Override int takes(int x) {
            trace.add(61);
            return super.takes(x) + v;
        }
    }

    private static final List<Class<? extends Layer>> KINDS =
        List.of(Layer.class, Crumpled.class, Standing.class, Hung.class, Loose.class, Stiff.class, Told.class);

    private static Layer newLayer(int kind) {
        switch (kind) {
            case 1: return new Crumpled();
            case 2: return new Standing();
            case 3: return new Hung();
            case 4: return new Loose();
            case 5: return new Stiff();
            case 6: return new Told();
            default: return new Layer();
        }
    }

    private static int kindOf(Layer layer) {
        return KINDS.indexOf(layer.getClass());
    }

    // ---- schools

    record Clause(String word, int n, Predicate<int[]> condition) {
    }

    /** Which ends the grammar can reach from a place, and whether a text's end was met while more could come. */
    private static final class Grammar {
        final String text;
        boolean canGoOn = false;

        Grammar(String text) {
            this.text = text;
        }

        private TreeSet<Integer> word(int at, String word) {
            TreeSet<Integer> ends = new TreeSet<>();
            if (text.startsWith(word, at)) {
                ends.add(at + word.length());
            }
            if (word.startsWith(text.substring(at))) {
                canGoOn = true;
            }
            return ends;
        }

        private TreeSet<Integer> number(int at) {
            TreeSet<Integer> ends = new TreeSet<>();
            for (int n = 0; n <= 99; n++) {
                ends.addAll(word(at, "" + n));
            }
            return ends;
        }

        private TreeSet<Integer> test(int at) {
            TreeSet<Integer> ends = new TreeSet<>();
            for (char letter : "fskty".toCharArray()) {
                for (char sign : "<=>".toCharArray()) {
                    for (int end : word(at, "" + letter + sign)) {
                        ends.addAll(number(end));
                    }
                }
            }
            return ends;
        }

        private TreeSet<Integer> f(int at, int open) {
            TreeSet<Integer> ends = test(at);
            if (open < 5) {
                for (int end : word(at, "!")) {
                    ends.addAll(f(end, open + 1));
                }
                for (int end : word(at, "(")) {
                    for (int close : e(end, open + 1)) {
                        ends.addAll(word(close, ")"));
                    }
                }
            }
            return ends;
        }

        private TreeSet<Integer> t(int at, int open) {
            TreeSet<Integer> ends = new TreeSet<>();
            for (int end : f(at, open)) {
                ends.add(end);
                for (int and : word(end, "&")) {
                    ends.addAll(t(and, open));
                }
            }
            return ends;
        }

        private TreeSet<Integer> e(int at, int open) {
            TreeSet<Integer> ends = new TreeSet<>();
            for (int end : t(at, open)) {
                ends.add(end);
                for (int or : word(end, "|")) {
                    ends.addAll(e(or, open));
                }
            }
            return ends;
        }

        private TreeSet<Integer> clause(int at) {
            TreeSet<Integer> ends = new TreeSet<>();
            for (String word : List.of("bear ", "turn ")) {
                for (int end : word(at, word)) {
                    ends.addAll(number(end));
                }
            }
            for (String word : List.of("wind ", "price ")) {
                for (int end : word(at, word)) {
                    for (int behind : number(end)) {
                        for (int blank : word(behind, " ")) {
                            ends.addAll(e(blank, 0));
                        }
                    }
                }
            }
            return ends;
        }

        private TreeSet<Integer> clauses(int at, int left) {
            TreeSet<Integer> ends = new TreeSet<>();
            for (int end : clause(at)) {
                ends.add(end);
                if (left > 1) {
                    for (int next : word(end, ";")) {
                        ends.addAll(clauses(next, left - 1));
                    }
                }
            }
            return ends;
        }

        boolean isSchool() {
            return clauses(0, 10).contains(text.length());
        }

        boolean isBeginning() {
            return isSchool() || canGoOn;
        }
    }

    /** -1, or the place of the fault. */
    static int faultOf(String text) {
        if (new Grammar(text).isSchool()) {
            return -1;
        }
        for (int size = 1; size <= text.length(); size++) {
            if (!new Grammar(text.substring(0, size)).isBeginning()) {
                return size - 1;
            }
        }
        return text.length();
    }

    private static List<Clause> clausesOf(String text) {
        List<Clause> all = new ArrayList<>();
        for (String clause : text.split(";")) {
            String[] parts = clause.split(" ");
            all.add(new Clause(parts[0], Integer.parseInt(parts[1]), parts.length > 2 ? tree(parts[2]) : null));
        }
        return all;
    }

    /** The last | outside of ( ) parts a text first, then the last &, then a ! ahead. */
    private static Predicate<int[]> tree(String text) {
        int or = lastOutside(text, '|');
        if (or >= 0) {
            return tree(text.substring(0, or)).or(tree(text.substring(or + 1)));
        }
        int and = lastOutside(text, '&');
        if (and >= 0) {
            return tree(text.substring(0, and)).and(tree(text.substring(and + 1)));
        }
        if (text.charAt(0) == '!') {
            return tree(text.substring(1)).negate();
        }
        if (text.charAt(0) == '(') {
            return tree(text.substring(1, text.length() - 1));
        }
        int letter = "fskty".indexOf(text.charAt(0));
        int number = Integer.parseInt(text.substring(2));
        switch (text.charAt(1)) {
            case '<': return is -> is[letter] < number;
            case '>': return is -> is[letter] > number;
            default: return is -> is[letter] == number;
        }
    }

    private static int lastOutside(String text, char sign) {
        int depth = 0;
        int last = -1;
        for (int i = 0; i < text.length(); i++) {
            char c = text.charAt(i);
            depth += c == '(' ? 1 : c == ')' ? -1 : 0;
            if (c == sign && depth == 0) {
                last = i;
            }
        }
        return last;
    }

    // ---- the state

    private static final int NONE = -1, BAD = -2, STATE = -3, FULL = -4;

    private String tape = "";
    private List<List<Clause>> schools = new ArrayList<>();
    private List<Layer> layers = new ArrayList<>();
    private List<int[]> seen = new ArrayList<>();
    private List<int[]> booked = new ArrayList<>();
    private int tries = 0, cracks = 0;
    private boolean whole = true;
    private Model image = null;
    private List<Integer> trace = new ArrayList<>();

    private void become(Model other) {
        tape = other.tape;
        schools = new ArrayList<>(other.schools);
        layers = new ArrayList<>();
        for (Layer layer : other.layers) {
            layers.add(layer.copy());
        }
        seen = new ArrayList<>(other.seen);
        booked = new ArrayList<>(other.booked);
        tries = other.tries;
        cracks = other.cracks;
        whole = other.whole;
    }

    private Model copy() {
        Model other = new Model();
        other.become(this);
        return other;
    }

    private List<Clause> clauses() {
        return schools.isEmpty() ? List.of() : schools.get(schools.size() - 1);
    }

    private int last(String word, int without) {
        int n = without;
        for (Clause clause : clauses()) {
            n = clause.word.equals(word) ? clause.n : n;
        }
        return n;
    }

    private int sum(String word, int... is) {
        return clauses().stream().filter(c -> c.word.equals(word) && c.condition.test(is)).mapToInt(c -> c.n).sum();
    }

    private int weight() {
        return layers.stream().mapToInt(layer -> layer.weight).sum();
    }

    private int bits() {
        return layers.stream().filter(layer -> layer.isBroken).mapToInt(layer -> 1 << layer.number).sum();
    }

    private static boolean isIn(int n, int least, int greatest) {
        return n >= least && n <= greatest;
    }

    // ---- falls

    /** Lets the egg of this model fall: FORCE and the SIDE. */
    private int[] happen(int floor, int below, int added, int bear) {
        int side = (below + last("turn", 1) * floor) % 4;
        int heavy = weight() / 10;
        int blow = 5 * floor + sum("wind", floor, side, 9, heavy, tries % 10) + heavy + added;
        int force = land(side, blow, floor, bear);
        if (blow > 20) {
            force = Math.max(force, land((side + 1) % 4, blow / 2, floor, bear));
        }
        return new int[] {force, side};
    }

    private int land(int side, int blow, int floor, int bear) {
        int left = blow;
        for (Layer layer : layers) {
            if (layer.side == side && !layer.isBroken) {
                left = Math.max(0, left - layer.takesOf(left, floor, tries));
            }
        }
        if (whole) {
            int bears = Math.max(0, bear - 3 * cracks);
            whole = left <= bears;
            cracks += whole && 2 * left > bears ? 1 : 0;
        }
        return left;
    }

    private int bear() {
        return last("bear", 20);
    }

    private int force(int floor, int side) {
        return copy().happen(floor, side, 0, bear())[0];
    }

    private boolean holds(int floor, int side, int added) {
        Model then = copy();
        then.happen(floor, side, added, bear());
        return then.whole;
    }

    // ---- the calls

    long call(String name, int... a) {
        switch (name) {
            case "feed": return feed(a[0]);
            case "school": return school();
            case "layer": return layer(a);
            case "of": return of(a[0], a[1]);
            case "side": return side(a[0], a[1]);
            case "broken": return broken(a[0], a[1] == 1);
            case "row": return row(a[0], a[1], a[2]);
            case "egg": return egg();
            case "told": return told(a[0]);
            case "drop": return drop(a[0], a[1]);
            case "fall": return fall(a[0], a[1], a[2]);
            case "highest": return highest(a[0]);
            case "best": return best(a[0], a[1]);
            case "lighter": return lighter(a[0], a[1], a[2]);
            case "shift": return shift(a[0], a[1]);
            case "tries": return tries(a[0], a[1]);
            case "failed": return failed(a[0], a[1]);
            case "see": return write(seen, a[0], a[1], a[2], 1);
            case "strong": return strong(a[0]);
            case "odds": return odds(a[0], a[1]);
            case "mean": return mean(a[0], a[1]);
            case "book": return write(booked, a[0], a[1], a[2], 9999);
            case "looked": return looked();
            case "act": return act(a[0], a[1], a[2]);
            case "trace": return a[0] >= 0 && a[0] < Math.min(20, trace.size()) ? trace.get(a[0]) : NONE;
            case "as": return as(a[0], a[1]);
            case "image": image = copy(); return layers.size();
            case "undo": return undo();
            case "count": return count(a[0]);
            default: throw new IllegalArgumentException(name);
        }
    }

    private boolean has(int layer) {
        return layer >= 0 && layer < layers.size();
    }

    private static boolean isPlace(int floor, int side) {
        return isIn(floor, 0, 20) && isIn(side, 0, 3);
    }

    private int feed(int sign) {
        if (!isIn(sign, 0, 127)) {
            return BAD;
        }
        if (tape.length() == 100) {
            return FULL;
        }
        tape += (char) sign;
        return tape.length();
    }

    private int school() {
        if (schools.size() == 5) {
            return FULL;
        }
        String text = tape;
        tape = "";
        int fault = faultOf(text);
        if (fault >= 0) {
            return -10 - fault;
        }
        schools.add(clausesOf(text));
        return schools.size() - 1;
    }

    private int layer(int[] a) {
        if (!isIn(a[0], 0, 6) || !isIn(a[4], 0, 3)) {
            return NONE;
        }
        if (!isIn(a[1], 0, 9) || !isIn(a[2], 1, 9) || !isIn(a[3], 0, 20)) {
            return BAD;
        }
        if (layers.size() == 8) {
            return FULL;
        }
        Layer layer = newLayer(a[0]);
        layer.number = layers.size();
        layer.v = a[1];
        layer.thick = a[2];
        layer.weight = a[3];
        layer.side = a[4];
        layers.add(layer);
        return layer.number;
    }

    private int price(Layer layer) {
        return sum("price", 0, layer.side, kindOf(layer), layer.thick, tries % 10);
    }

    private int of(int layer, int what) {
        if (!has(layer) || !isIn(what, 0, 6)) {
            return NONE;
        }
        Layer l = layers.get(layer);
        return new int[] {kindOf(l), l.v, l.thick, l.weight, l.side, l.isBroken ? 1 : 0, price(l)}[what];
    }

    private int side(int layer, int side) {
        if (!has(layer) || !isIn(side, 0, 3)) {
            return NONE;
        }
        int was = layers.get(layer).side;
        layers.get(layer).side = side;
        return was;
    }

    private int broken(int layer, boolean is) {
        if (!has(layer)) {
            return NONE;
        }
        boolean was = layers.get(layer).isBroken;
        layers.get(layer).isBroken = is;
        return was ? 1 : 0;
    }

    private int row(int layer, int k, int n) {
        if (!has(layer) || !isIn(k, 0, 2)) {
            return NONE;
        }
        if (!isIn(n, 0, 9)) {
            return BAD;
        }
        if (!(layers.get(layer) instanceof Told)) {
            return STATE;
        }
        int was = layers.get(layer).row[k];
        layers.get(layer).row[k] = n;
        return was;
    }

    private int egg() {
        int was = whole ? cracks : -5;
        whole = true;
        cracks = 0;
        return was;
    }

    private int told(int what) {
        int prices = layers.stream().mapToInt(this::price).sum();
        int[] all = {tries, bear(), last("turn", 1), cracks, whole ? 1 : 0, weight(), prices, bits()};
        return isIn(what, 0, 7) ? all[what] : NONE;
    }

    private int drop(int floor, int side) {
        if (!isPlace(floor, side)) {
            return NONE;
        }
        if (!whole || tries == 9999) {
            return STATE;
        }
        int force = happen(floor, side, 0, bear())[0];
        tries++;
        return force;
    }

    private int fall(int floor, int side, int what) {
        if (!isPlace(floor, side) || !isIn(what, 0, 4)) {
            return NONE;
        }
        Model then = copy();
        int[] told = then.happen(floor, side, 0, bear());
        return new int[] {told[0], told[1], then.whole ? 1 : 0, then.cracks, then.bits()}[what];
    }

    private int highest(int side) {
        if (!isIn(side, 0, 3)) {
            return NONE;
        }
        int floor = 0;
        while (floor <= 20 && holds(floor, side, 0)) {
            floor++;
        }
        return floor == 0 ? -5 : floor - 1;
    }

    private int best(int floor, int what) {
        if (!isIn(floor, 0, 20) || !isIn(what, 0, 1)) {
            return NONE;
        }
        int least = Integer.MAX_VALUE;
        for (int side = 0; side < 4; side++) {
            least = Math.min(least, 10 * force(floor, side) + side);
        }
        return what == 0 ? least % 10 : least / 10;
    }

    private int lighter(int floor, int side, int what) {
        if (!isPlace(floor, side) || !isIn(what, 0, 1)) {
            return NONE;
        }
        int least = Integer.MAX_VALUE;
        for (int set = 0; set < 1 << layers.size(); set++) {
            Model then = copy();
            int left = set;
            then.layers.removeIf(layer -> (left >> layer.number & 1) == 1);
            int order = then.weight() * 256 + set;
            then.happen(floor, side, 0, bear());
            least = then.whole ? Math.min(least, order) : least;
        }
        return least == Integer.MAX_VALUE ? -5 : what == 0 ? least % 256 : least / 256;
    }

    private int shift(int floor, int side) {
        if (!isPlace(floor, side)) {
            return NONE;
        }
        int now = force(floor, side);
        int least = Integer.MAX_VALUE;
        for (Layer layer : layers) {
            for (int to = 0; to < 4; to++) {
                Model then = copy();
                then.layers.get(layer.number).side = to;
                int force = then.force(floor, side);
                if (to != layer.side && force < now) {
                    least = Math.min(least, 100 * force + 10 * layer.number + to);
                }
            }
        }
        return least == Integer.MAX_VALUE ? -5 : least % 100;
    }

    private static int tries(int eggs, int floors) {
        if (!isIn(eggs, 1, 4) || !isIn(floors, 0, 99)) {
            return BAD;
        }
        int falls = 0;
        while (reach(falls, eggs) < floors) {
            falls++;
        }
        return falls;
    }

    private static long reach(int falls, int eggs) {
        long[] reached = new long[eggs + 1];
        for (int i = 0; i < falls; i++) {
            for (int egg = eggs; egg > 0; egg--) {
                reached[egg] += reached[egg - 1] + 1;
            }
        }
        return reached[eggs];
    }

    private int failed(int side, int set) {
        if (!isIn(side, 0, 3)) {
            return NONE;
        }
        if (!isIn(set, 0, (1 << layers.size()) - 1)) {
            return BAD;
        }
        int floors = 0;
        for (int floor = 0; floor <= 20; floor++) {
            floors += fall(floor, side, 4) == set ? 1 << floor : 0;
        }
        return floors;
    }

    private int write(List<int[]> rows, int floor, int side, int value, int most) {
        if (floor == -1) {
            rows.clear();
            return 0;
        }
        if (!isPlace(floor, side)) {
            return NONE;
        }
        if (!isIn(value, 0, most)) {
            return BAD;
        }
        if (rows.size() == 8) {
            return FULL;
        }
        rows.add(new int[] {floor, side, value});
        return rows.size();
    }

    private int strong(int what) {
        if (!isIn(what, 0, 1)) {
            return NONE;
        }
        TreeSet<Integer> all = new TreeSet<>();
        for (int bear = 0; bear <= 99; bear++) {
            boolean isSo = true;
            for (int[] one : seen) {
                Model then = copy();
                then.egg();
                then.happen(one[0], one[1], 0, bear);
                isSo &= then.whole == (one[2] == 1);
            }
            if (isSo) {
                all.add(bear);
            }
        }
        return all.isEmpty() ? -5 : what == 0 ? all.first() : all.last();
    }

    private static long fraction(int above, int below, int part) {
        BigInteger by = BigInteger.valueOf(above).gcd(BigInteger.valueOf(below));
        return BigInteger.valueOf(part == 0 ? above : below).divide(by).longValue();
    }

    private long odds(int floor, int part) {
        if (!isIn(floor, 0, 20) || !isIn(part, 0, 1)) {
            return Long.MIN_VALUE;
        }
        int all = 0;
        for (int side = 0; side < 4; side++) {
            for (int added = 0; added <= 9; added++) {
                all += holds(floor, side, added) ? 1 : 0;
            }
        }
        return fraction(all, 40, part);
    }

    private long mean(int floor, int part) {
        if (!isIn(floor, 0, 20) || !isIn(part, 0, 1)) {
            return Long.MIN_VALUE;
        }
        int[] sides = {0, 1, 2, 3};
        return fraction(Arrays.stream(sides).map(side -> force(floor, side)).sum(), 4, part);
    }

    private int looked() {
        for (int i = 0; i < booked.size(); i++) {
            if (force(booked.get(i)[0], booked.get(i)[1]) != booked.get(i)[2]) {
                return i;
            }
        }
        return -5;
    }

    private int act(int layer, int act, int x) {
        trace = new ArrayList<>();
        if (!has(layer) || !isIn(act, 0, 2)) {
            return 0;
        }
        Layer l = layers.get(layer);
        l.trace = trace;
        return act == 0 ? l.gives(x) : act == 1 ? l.takes(x) : l.tells(x);
    }

    private int as(int layer, int k) {
        if (!has(layer) || !isIn(k, 0, 6)) {
            return NONE;
        }
        return KINDS.get(k).isInstance(layers.get(layer)) ? layers.get(layer).v : -6;
    }

    private int undo() {
        if (image == null) {
            return STATE;
        }
        become(image);
        return layers.size();
    }

    private int count(int what) {
        int[] all = {layers.size(), schools.size(), seen.size(), booked.size(), tape.length(), trace.size()};
        return isIn(what, 0, 5) ? all[what] : NONE;
    }
}
