import java.util.function.ToLongFunction;

/** Terms 3: each refusal of each call, which comes first where several hold, and that nothing has changed behind it. */
public final class RefusalsTest {
    private static final int NONE = -1, BAD = -2, STATE = -3, FULL = -4;
    private static final int MOST = Integer.MAX_VALUE, LEAST = Integer.MIN_VALUE;
    private static final int[] NO_SIDE = {LEAST, -1, 4, MOST}, NO_FLOOR = {LEAST, -1, 21, MOST};

    public static void main(String[] args) {
        feed();
        feedFull();
        school();
        schoolAheadOfAll();
        layer();
        layerFull();
        of();
        side();
        broken();
        row();
        rowState();
        told();
        drop();
        dropState();
        dropAtLastTry();
        fall();
        falls();
        boxes();
        failed();
        see();
        strong();
        oddsAndMean();
        book();
        trace();
        as();
        undo();
        count();
        asked();
        Check.end();
    }

    /** Refused so in every state. */
    private static void ever(String call, long due, ToLongFunction<EggDrop> how) {
        for (Twin.State state : Twin.State.values()) {
            Twin.same(call, state, due, how);
        }
    }

    // ---- schools, layers, eggs

    private static void feed() {
        Check.sentence("feed. BAD; FULL");
        for (int sign : new int[] {LEAST, -1, 128, MOST}) {
            ever("feed(" + sign + ")", BAD, x -> x.feed(sign));
        }
    }

    private static void feedFull() {
        Check.sentence("feed. FULL changes nothing");
        Twin.same("feed(98)", Twin.State.FULL, FULL, x -> x.feed('b'));
        Twin.same("feed(0)", Twin.State.BROKEN, FULL, x -> x.feed(0));
        EggDrop x = new EggDrop();
        Check.feedAll(x, "bear 1;".repeat(9) + "price 20 " + "f=0&".repeat(6) + "y=10");
        Check.due("signs", x.count(4), 100);
        for (int sign : new int[] {'1', ';', 0, 127}) {
            Check.due("feed(" + sign + ")", x.feed(sign), FULL);
        }
        Check.due("feed(128), full", x.feed(128), BAD);
        Check.due("signs", x.count(4), 100);
        Check.due("its school is that of the 100", x.school(), 0);
        x.layer(0, 0, 1, 0, 0);
        Check.due("y=10 does not hold", x.of(0, 6), 0);
    }

    private static void school() {
        Check.sentence("school. FULL (THE TAPE stays)");
        Twin.same("school()", Twin.State.FULL, FULL, EggDrop::school);
        Twin.same("school()", Twin.State.BROKEN, FULL, EggDrop::school);
    }

    private static void schoolAheadOfAll() {
        Check.sentence("school. FULL (ahead of all)");
        for (String text : new String[] {"", "x", "bear", "bear 9", "bear 9;"}) {
            EggDrop x = new EggDrop();
            for (int i = 0; i < 5; i++) {
                Check.schoolOf(x, "bear 1" + i);
            }
            Check.feedAll(x, text);
            Check.due("school() of \"" + text + "\"", x.school(), FULL);
            Check.due("count(4)", x.count(4), text.length());
            Check.due("count(1)", x.count(1), 5);
            Check.due("the fifth holds", x.told(1), 14);
        }
    }

    private static void layer() {
        Check.sentence("layer. NONE: kind, side; BAD: v, thick, weight");
        for (int kind : new int[] {LEAST, -1, 7, MOST}) {
            ever("layer(" + kind + ", ..)", NONE, x -> x.layer(kind, 0, 1, 0, 0));
            ever("layer(" + kind + ", .. bad)", NONE, x -> x.layer(kind, 10, 0, 21, 0));
        }
        for (int side : NO_SIDE) {
            ever("layer(.., " + side + ")", NONE, x -> x.layer(0, 0, 1, 0, side));
            ever("layer(bad .., " + side + ")", NONE, x -> x.layer(0, -1, 10, -1, side));
        }
        for (int v : new int[] {LEAST, -1, 10, MOST}) {
            ever("layer(0, " + v + ", ..)", BAD, x -> x.layer(0, v, 1, 0, 0));
        }
        for (int thick : new int[] {LEAST, 0, 10, MOST}) {
            ever("layer(0, 0, " + thick + ", ..)", BAD, x -> x.layer(0, 0, thick, 0, 0));
        }
        for (int weight : new int[] {LEAST, -1, 21, MOST}) {
            ever("layer(0, 0, 1, " + weight + ", 0)", BAD, x -> x.layer(0, 0, 1, weight, 0));
        }
    }

    private static void layerFull() {
        Check.sentence("layer. FULL");
        for (int kind = 0; kind <= 6; kind++) {
            int one = kind;
            Twin.same("layer(" + kind + ", ..)", Twin.State.FULL, FULL, x -> x.layer(one, 9, 9, 20, 3));
            Twin.same("layer(" + kind + ", ..)", Twin.State.BROKEN, FULL, x -> x.layer(one, 0, 1, 20, 0));
        }
    }

    private static void of() {
        Check.sentence("of. NONE");
        for (int layer : new int[] {LEAST, -1, 8, MOST}) {
            ever("of(" + layer + ", 0)", NONE, x -> x.of(layer, 0));
            ever("of(" + layer + ", 6)", NONE, x -> x.of(layer, 6));
        }
        for (int what : new int[] {LEAST, -1, 7, MOST}) {
            ever("of(0, " + what + ")", NONE, x -> x.of(0, what));
        }
        Twin.same("of(3, 0)", Twin.State.PART, NONE, x -> x.of(3, 0));
        Twin.same("of(0, 0)", Twin.State.NEW, NONE, x -> x.of(0, 0));
    }

    private static void side() {
        Check.sentence("side. NONE");
        for (int layer : new int[] {LEAST, -1, 8, MOST}) {
            ever("side(" + layer + ", 1)", NONE, x -> x.side(layer, 1));
        }
        for (int side : NO_SIDE) {
            ever("side(0, " + side + ")", NONE, x -> x.side(0, side));
        }
        Twin.same("side(3, 0)", Twin.State.PART, NONE, x -> x.side(3, 0));
        Twin.same("side(0, 0)", Twin.State.NEW, NONE, x -> x.side(0, 0));
    }

    private static void broken() {
        Check.sentence("broken. NONE");
        for (int layer : new int[] {LEAST, -32, -1, 8, 31, 32, MOST}) {
            ever("broken(" + layer + ", true)", NONE, x -> x.broken(layer, true));
            ever("broken(" + layer + ", false)", NONE, x -> x.broken(layer, false));
        }
        Twin.same("broken(3, true)", Twin.State.PART, NONE, x -> x.broken(3, true));
        Twin.same("broken(0, true)", Twin.State.NEW, NONE, x -> x.broken(0, true));
    }

    private static void row() {
        Check.sentence("row. NONE: layer, k; BAD");
        for (int layer : new int[] {LEAST, -1, 8, MOST}) {
            ever("row(" + layer + ", 0, 0)", NONE, x -> x.row(layer, 0, 0));
            ever("row(" + layer + ", 0, 10)", NONE, x -> x.row(layer, 0, 10));
        }
        for (int k : new int[] {LEAST, -1, 3, MOST}) {
            Twin.same("row(2, " + k + ", 9)", Twin.State.PART, NONE, x -> x.row(2, k, 9));
            Twin.same("row(2, " + k + ", 10)", Twin.State.PART, NONE, x -> x.row(2, k, 10));
            Twin.same("row(7, " + k + ", 9)", Twin.State.FULL, NONE, x -> x.row(7, k, 9));
            Twin.same("row(1, " + k + ", 9), STANDING", Twin.State.PART, NONE, x -> x.row(1, k, 9));
            Twin.same("row(1, " + k + ", 10), STANDING", Twin.State.PART, NONE, x -> x.row(1, k, 10));
        }
        for (int n : new int[] {LEAST, -1, 10, MOST}) {
            Twin.same("row(2, 1, " + n + ")", Twin.State.PART, BAD, x -> x.row(2, 1, n));
            Twin.same("row(7, 2, " + n + ")", Twin.State.FULL, BAD, x -> x.row(7, 2, n));
            Twin.same("row(1, 1, " + n + "), STANDING", Twin.State.PART, BAD, x -> x.row(1, 1, n));
        }
    }

    private static void rowState() {
        Check.sentence("row. STATE: another KIND");
        for (int k = 0; k < 3; k++) {
            int at = k;
            for (int layer = 1; layer <= 6; layer++) {
                int i = layer;
                Twin.same("row(" + layer + ", " + k + ", 9)", Twin.State.FULL, STATE, x -> x.row(i, at, 9));
            }
        }
    }

    private static void told() {
        Check.sentence("told. NONE");
        for (int what : new int[] {LEAST, -1, 8, MOST}) {
            ever("told(" + what + ")", NONE, x -> x.told(what));
        }
    }

    // ---- falls, boxes

    private static void drop() {
        Check.sentence("drop. NONE (ahead of STATE)");
        for (int floor : NO_FLOOR) {
            ever("drop(" + floor + ", 0)", NONE, x -> x.drop(floor, 0));
        }
        for (int side : NO_SIDE) {
            ever("drop(9, " + side + ")", NONE, x -> x.drop(9, side));
            ever("drop(-1, " + side + ")", NONE, x -> x.drop(-1, side));
        }
    }

    private static void dropState() {
        Check.sentence("drop. STATE: THE EGG is whole no more");
        Twin.same("drop(0, 0)", Twin.State.BROKEN, STATE, x -> x.drop(0, 0));
        Twin.same("drop(20, 3)", Twin.State.BROKEN, STATE, x -> x.drop(20, 3));
    }

    private static void dropAtLastTry() {
        Check.sentence("drop. STATE: TRY is 9999");
        EggDrop x = new EggDrop();
        x.layer(2, 0, 1, 0, 0);
        for (int i = 0; i < 9998; i++) {
            x.drop(0, 0);
        }
        Check.due("TRY", x.told(0), 9998);
        Check.due("the last one", x.drop(0, 0), 0);
        Check.due("TRY", x.told(0), 9999);
        Check.due("one too many", x.drop(4, 0), STATE);
        Check.due("no such floor", x.drop(21, 0), NONE);
        Check.due("no such side", x.drop(0, 4), NONE);
        Check.due("TRY", x.told(0), 9999);
        Check.due("whole", x.told(4), 1);
        Check.due("cracks", x.told(3), 0);
        Check.due("nothing is broken", x.told(7), 0);
        Check.due("a fall can be asked", x.fall(4, 0, 4), 1);
    }

    private static void fall() {
        Check.sentence("fall. NONE");
        for (int floor : NO_FLOOR) {
            ever("fall(" + floor + ", 0, 0)", NONE, x -> x.fall(floor, 0, 0));
        }
        for (int side : NO_SIDE) {
            ever("fall(9, " + side + ", 0)", NONE, x -> x.fall(9, side, 0));
        }
        for (int what : new int[] {LEAST, -1, 5, MOST}) {
            ever("fall(20, 0, " + what + ")", NONE, x -> x.fall(20, 0, what));
        }
    }

    private static void falls() {
        Check.sentence("highest, best. NONE");
        for (int side : NO_SIDE) {
            ever("highest(" + side + ")", NONE, x -> x.highest(side));
        }
        for (int floor : NO_FLOOR) {
            ever("best(" + floor + ", 0)", NONE, x -> x.best(floor, 0));
            ever("best(" + floor + ", 1)", NONE, x -> x.best(floor, 1));
        }
        for (int what : new int[] {LEAST, -1, 2, MOST}) {
            ever("best(5, " + what + ")", NONE, x -> x.best(5, what));
        }
    }

    private static void boxes() {
        Check.sentence("lighter, shift. NONE; tries. BAD: eggs, floors");
        for (int floor : NO_FLOOR) {
            ever("lighter(" + floor + ", 0, 0)", NONE, x -> x.lighter(floor, 0, 0));
            ever("shift(" + floor + ", 0)", NONE, x -> x.shift(floor, 0));
        }
        for (int side : NO_SIDE) {
            ever("lighter(5, " + side + ", 0)", NONE, x -> x.lighter(5, side, 0));
            ever("shift(5, " + side + ")", NONE, x -> x.shift(5, side));
        }
        for (int what : new int[] {LEAST, -1, 2, MOST}) {
            ever("lighter(5, 0, " + what + ")", NONE, x -> x.lighter(5, 0, what));
        }
        for (int eggs : new int[] {LEAST, 0, 5, MOST}) {
            ever("tries(" + eggs + ", 5)", BAD, x -> x.tries(eggs, 5));
        }
        for (int floors : new int[] {LEAST, -1, 100, MOST}) {
            ever("tries(2, " + floors + ")", BAD, x -> x.tries(2, floors));
        }
    }

    private static void failed() {
        Check.sentence("failed. NONE: side; BAD: set");
        for (int side : NO_SIDE) {
            ever("failed(" + side + ", 0)", NONE, x -> x.failed(side, 0));
            ever("failed(" + side + ", -1)", NONE, x -> x.failed(side, -1));
            ever("failed(" + side + ", 256)", NONE, x -> x.failed(side, 256));
        }
        for (int set : new int[] {LEAST, -1, 256, MOST}) {
            ever("failed(0, " + set + ")", BAD, x -> x.failed(0, set));
        }
        Twin.same("failed(0, 8)", Twin.State.PART, BAD, x -> x.failed(0, 8));
        Twin.same("failed(0, 1)", Twin.State.NEW, BAD, x -> x.failed(0, 1));
    }

    // ---- seen, odds, books

    private static void see() {
        Check.sentence("see. NONE; FULL");
        for (int floor : new int[] {LEAST, -2, 21, MOST}) {
            ever("see(" + floor + ", 0, true)", NONE, x -> x.see(floor, 0, true));
        }
        for (int side : NO_SIDE) {
            ever("see(0, " + side + ", false)", NONE, x -> x.see(0, side, false));
        }
        Twin.same("see(0, 0, false)", Twin.State.FULL, FULL, x -> x.see(0, 0, false));
        Twin.same("see(20, 3, true)", Twin.State.BROKEN, FULL, x -> x.see(20, 3, true));
    }

    private static void strong() {
        Check.sentence("strong. NONE");
        for (int what : new int[] {LEAST, -1, 2, MOST}) {
            ever("strong(" + what + ")", NONE, x -> x.strong(what));
        }
    }

    private static void oddsAndMean() {
        Check.sentence("odds, mean. NO");
        for (int floor : NO_FLOOR) {
            ever("odds(" + floor + ", 0)", Long.MIN_VALUE, x -> x.odds(floor, 0));
            ever("mean(" + floor + ", 1)", Long.MIN_VALUE, x -> x.mean(floor, 1));
        }
        for (int part : new int[] {LEAST, -1, 2, MOST}) {
            ever("odds(0, " + part + ")", Long.MIN_VALUE, x -> x.odds(0, part));
            ever("mean(20, " + part + ")", Long.MIN_VALUE, x -> x.mean(20, part));
        }
    }

    private static void book() {
        Check.sentence("book. NONE; BAD: force (0 .. 9999); FULL");
        for (int floor : new int[] {LEAST, -2, 21, MOST}) {
            ever("book(" + floor + ", 0, 0)", NONE, x -> x.book(floor, 0, 0));
            ever("book(" + floor + ", 0, -1)", NONE, x -> x.book(floor, 0, -1));
        }
        for (int side : NO_SIDE) {
            ever("book(0, " + side + ", 0)", NONE, x -> x.book(0, side, 0));
            ever("book(0, " + side + ", 10000)", NONE, x -> x.book(0, side, 10000));
        }
        for (int force : new int[] {LEAST, -1, 10000, MOST}) {
            ever("book(0, 0, " + force + ")", BAD, x -> x.book(0, 0, force));
        }
        Twin.same("book(0, 0, 0)", Twin.State.FULL, FULL, x -> x.book(0, 0, 0));
        Twin.same("book(20, 3, 9999)", Twin.State.BROKEN, FULL, x -> x.book(20, 3, 9999));
    }

    // ---- acts, the image

    private static void trace() {
        Check.sentence("trace. NONE");
        for (int i : new int[] {LEAST, -1, 7, 19, 20, MOST}) {
            ever("trace(" + i + ")", NONE, x -> x.trace(i));
        }
        Twin.same("trace(0)", Twin.State.NEW, NONE, x -> x.trace(0));
    }

    private static void as() {
        Check.sentence("as. NONE: layer, k; -6");
        for (int layer : new int[] {LEAST, -1, 8, MOST}) {
            ever("as(" + layer + ", 0)", NONE, x -> x.as(layer, 0));
        }
        for (int k : new int[] {LEAST, -1, 7, MOST}) {
            ever("as(0, " + k + ")", NONE, x -> x.as(0, k));
        }
        Twin.same("as(3, 0)", Twin.State.PART, NONE, x -> x.as(3, 0));
        Twin.same("as(0, 6)", Twin.State.PART, -6, x -> x.as(0, 6));
    }

    private static void undo() {
        Check.sentence("undo. STATE");
        Twin.same("undo()", Twin.State.NEW, STATE, EggDrop::undo);
        Twin.same("undo()", Twin.State.PART, STATE, EggDrop::undo);
        Twin.same("undo()", Twin.State.FULL, STATE, EggDrop::undo);
    }

    private static void count() {
        Check.sentence("count. NONE");
        for (int what : new int[] {LEAST, -1, 6, MOST}) {
            ever("count(" + what + ")", NONE, x -> x.count(what));
        }
    }

    // ---- what is asked

    /** Asked a hundred times, the answer stays, and the object lives on as one does that was not asked. */
    private static void asks(String call, ToLongFunction<EggDrop> how) {
        for (Twin.State state : Twin.State.values()) {
            Twin.same(call, state, how.applyAsLong(Twin.make(state)), x -> {
                long first = how.applyAsLong(x);
                for (int i = 0; i < 100; i++) {
                    Check.due(call + " of " + state + " once more", how.applyAsLong(x), first);
                }
                return first;
            });
        }
    }

    private static void asked() {
        Check.sentence("All that follows is asked, and changes nothing");
        for (int floor : new int[] {0, 5, 20}) {
            for (int side = 0; side < 4; side++) {
                int a = side;
                asks("fall(" + floor + ", " + side + ", 0)", x -> x.fall(floor, a, 0));
                asks("fall(" + floor + ", " + side + ", 4)", x -> x.fall(floor, a, 4));
                asks("lighter(" + floor + ", " + side + ", 0)", x -> x.lighter(floor, a, 0));
                asks("shift(" + floor + ", " + side + ")", x -> x.shift(floor, a));
            }
            asks("best(" + floor + ", 0)", x -> x.best(floor, 0));
            asks("odds(" + floor + ", 0)", x -> x.odds(floor, 0));
            asks("mean(" + floor + ", 0)", x -> x.mean(floor, 0));
        }
        for (int side = 0; side < 4; side++) {
            int a = side;
            asks("highest(" + side + ")", x -> x.highest(a));
            asks("failed(" + side + ", 0)", x -> x.failed(a, 0));
        }
        asks("tries(3, 50)", x -> x.tries(3, 50));
        asks("strong(0)", x -> x.strong(0));
        asks("strong(1)", x -> x.strong(1));
        asks("looked()", EggDrop::looked);
        asks("of(0, 6)", x -> x.of(0, 6));
        asks("told(6)", x -> x.told(6));
        asks("trace(0)", x -> x.trace(0));
        asks("as(0, 0)", x -> x.as(0, 0));
        asks("count(5)", x -> x.count(5));
    }
}
