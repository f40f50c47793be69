/** Terms 2 from ACTS on: ints that wrap, which bodies run, what THE TRACE keeps, what THE IMAGE is of. */
public final class ActImageEdgesTest {
    private static final int MOST = Integer.MAX_VALUE, LEAST = Integer.MIN_VALUE;

    public static void main(String[] args) {
        giveWraps();
        tripleWraps();
        takeWraps();
        negationWraps();
        tellWraps();
        lessOneWraps();
        sumWraps();
        toldWraps();
        xorOfAllBits();
        numberOfLayer();
        bodyOfItsKind();
        nextKindAbove();
        superIsAboveTheBody();
        fromTheLeftOn();
        traceFromZeroOn();
        traceKeepsTwenty();
        traceOfLatest();
        noTraceThen();
        actsChangeNothing();
        takenForKind();
        noImage();
        imageOfNothing();
        imageOfAll();
        imageStays();
        imageIsNoPart();
        traceIsNoPart();
        imageOfFullBox();
        imageOfBrokenEgg();
        countsOfWhat();
        Check.end();
    }

    /** A layer of a kind and a v with a number; those ahead of it are of other kinds. */
    private static EggDrop one(int number, int kind, int v) {
        EggDrop x = new EggDrop();
        for (int i = 0; i < number; i++) {
            x.layer((kind + 1) % 7, (v + 1) % 10, 1, 0, 0);
        }
        Check.due("the layer", x.layer(kind, v, 1, 0, 0), number);
        return x;
    }

    private static void act(EggDrop x, int layer, int act, int given, long answer, int... bodies) {
        String call = "act(" + layer + ", " + act + ", " + given + ")";
        Check.due(call, x.act(layer, act, given), (int) answer);
        Check.due(call + ": count(5)", x.count(5), bodies.length);
        for (int i = 0; i < bodies.length; i++) {
            Check.due(call + ": trace(" + i + ")", x.trace(i), bodies[i]);
        }
        Check.due(call + ": trace(" + bodies.length + ")", x.trace(bodies.length), -1);
    }

    // ---- ints that wrap: the answer is written as a long, and cut

    private static void giveWraps() {
        Check.sentence("ACTS with x (ints, wrapping): gives: x + i");
        act(one(7, 0, 0), 7, 0, MOST - 7, MOST, 1);
        act(one(7, 0, 0), 7, 0, MOST - 6, LEAST, 1);
        act(one(7, 0, 0), 7, 0, MOST, MOST + 7L, 1);
        act(one(7, 0, 0), 7, 0, LEAST, LEAST + 7L, 1);
    }

    private static void tripleWraps() {
        Check.sentence("ACTS (ints, wrapping): super.gives(x * 3)");
        for (int x : new int[] {MOST, LEAST, MOST / 3, MOST / 3 + 1, LEAST / 3, LEAST / 3 - 1, 1 << 30}) {
            act(one(4, 1, 0), 4, 0, x, 3L * x + 4, 11, 1);
        }
    }

    private static void takeWraps() {
        Check.sentence("ACTS (ints, wrapping): takes: gives(x) - v");
        act(one(0, 0, 9), 0, 1, LEAST + 9, LEAST, 2, 1);
        act(one(0, 0, 9), 0, 1, LEAST + 8, MOST, 2, 1);
        act(one(0, 0, 9), 0, 1, LEAST, LEAST - 9L, 2, 1);
        act(one(0, 0, 9), 0, 1, MOST, MOST - 9L, 2, 1);
    }

    private static void negationWraps() {
        Check.sentence("ACTS (ints, wrapping): -super.takes(x)");
        act(one(0, 2, 0), 0, 1, LEAST, LEAST, 21, 2, 1);
        act(one(0, 2, 0), 0, 1, LEAST + 1, MOST, 21, 2, 1);
        act(one(0, 2, 0), 0, 1, MOST, LEAST + 1L, 21, 2, 1);
        act(one(0, 2, 1), 0, 1, LEAST, LEAST + 1L, 21, 2, 1);
    }

    private static void tellWraps() {
        Check.sentence("ACTS (ints, wrapping): tells: takes(x) * 2");
        act(one(0, 0, 0), 0, 2, 1 << 30, LEAST, 3, 2, 1);
        act(one(0, 0, 0), 0, 2, (1 << 30) - 1, MOST - 1L, 3, 2, 1);
        act(one(0, 0, 0), 0, 2, -(1 << 30), LEAST, 3, 2, 1);
        act(one(0, 0, 0), 0, 2, LEAST, 0, 3, 2, 1);
        act(one(0, 0, 0), 0, 2, MOST, -2, 3, 2, 1);
    }

    private static void lessOneWraps() {
        Check.sentence("ACTS (ints, wrapping): super.tells(x - 1)");
        long given = 3L * MOST;
        act(one(0, 4, 0), 0, 2, LEAST, given * 2 + 6, 41, 3, 2, 11, 1, 11, 1);
    }

    private static void sumWraps() {
        Check.sentence("ACTS (ints, wrapping): super.tells(x - 1) + gives(2)");
        // x - 1 by 3 is 1 more than two thirds of 2^30: twice that and 6 is just behind the greatest
        int x = 357913941 + 1;
        act(one(0, 4, 0), 0, 2, x, 6L * (x - 1) + 6, 41, 3, 2, 11, 1, 11, 1);
        Check.due("it is below 0", one(0, 4, 0).act(0, 2, x) < 0 ? 1 : 0, 1);
    }

    private static void toldWraps() {
        Check.sentence("ACTS (ints, wrapping): super.takes(x) + v");
        act(one(6, 6, 9), 6, 1, MOST, MOST + 6L, 61, 2, 1);
        act(one(6, 6, 9), 6, 1, LEAST, LEAST + 6L, 61, 2, 1);
        act(one(0, 6, 9), 0, 1, LEAST, LEAST, 61, 2, 1);
        act(one(0, 6, 9), 0, 1, MOST, MOST, 61, 2, 1);
    }

    private static void xorOfAllBits() {
        Check.sentence("super.tells(x) ^ 7, super.gives(x) ^ i");
        for (int x = -9; x <= 9; x++) {
            act(one(0, 3, 0), 0, 2, x, 2 * x ^ 7, 31, 3, 2, 1);
            act(one(6, 5, 0), 6, 0, x, x + 6 ^ 6, 51, 1);
            act(one(7, 5, 0), 7, 0, x, x + 7 ^ 7, 51, 1);
        }
        act(one(7, 5, 0), 7, 0, MOST, MOST + 7 ^ 7, 51, 1);
    }

    private static void numberOfLayer() {
        Check.sentence("i its number");
        for (int i = 0; i < 8; i++) {
            act(one(i, 0, 5), i, 0, 100, 100 + i, 1);
            act(one(i, 5, 5), i, 0, 100, 100 + i ^ i, 51, 1);
        }
    }

    // ---- which bodies run

    private static void bodyOfItsKind() {
        Check.sentence("gives(..) and so on: the body of its KIND");
        act(one(2, 0, 3), 2, 0, 10, 12, 1);
        act(one(2, 0, 3), 2, 1, 10, 9, 2, 1);
        act(one(2, 0, 3), 2, 2, 10, 18, 3, 2, 1);
        act(one(2, 1, 3), 2, 0, 10, 32, 11, 1);
        act(one(2, 2, 3), 2, 1, 10, -9, 21, 2, 1);
        act(one(2, 3, 3), 2, 2, 10, 18 ^ 7, 31, 3, 2, 1);
        act(one(2, 4, 3), 2, 2, 10, 2 * (27 + 2 - 3) + 8, 41, 3, 2, 11, 1, 11, 1);
        act(one(2, 5, 3), 2, 0, 10, 12 ^ 2, 51, 1);
        act(one(2, 6, 3), 2, 1, 10, 12, 61, 2, 1);
    }

    private static void nextKindAbove() {
        Check.sentence("or, if that has none, of the next KIND above that has one");
        act(one(2, 1, 3), 2, 1, 10, 29, 2, 11, 1);
        act(one(2, 1, 3), 2, 2, 10, 58, 3, 2, 11, 1);
        act(one(2, 2, 3), 2, 0, 10, 12, 1);
        act(one(2, 2, 3), 2, 2, 10, -18, 3, 21, 2, 1);
        act(one(2, 3, 3), 2, 0, 10, 12, 1);
        act(one(2, 3, 3), 2, 1, 10, 9, 2, 1);
        act(one(2, 4, 3), 2, 0, 10, 32, 11, 1);
        act(one(2, 4, 3), 2, 1, 10, 29, 2, 11, 1);
        act(one(2, 5, 3), 2, 1, 10, -(14 - 3), 21, 2, 51, 1);
        act(one(2, 5, 3), 2, 2, 10, -22, 3, 21, 2, 51, 1);
        act(one(2, 6, 3), 2, 0, 10, 12, 1);
        act(one(2, 6, 3), 2, 2, 10, 24 ^ 7, 31, 3, 61, 2, 1);
    }

    private static void superIsAboveTheBody() {
        Check.sentence("super.gives(..): so from the KIND above the body's on");
        // of LOOSE tells' super there is none in CRUMPLED; of TOLD takes' none in HUNG; gives of STIFF none in STANDING
        act(one(1, 4, 0), 1, 2, 1, 2 + 7, 41, 3, 2, 11, 1, 11, 1);
        act(one(1, 6, 4), 1, 1, 1, 2, 61, 2, 1);
        act(one(1, 5, 0), 1, 0, 1, 2 ^ 1, 51, 1);
        // CRUMPLED's body runs for a LOOSE one, and its super is LAYER's
        act(one(1, 4, 0), 1, 0, 1, 4, 11, 1);
    }

    private static void fromTheLeftOn() {
        Check.sentence("what stands in a body is done from the left on");
        act(one(3, 4, 2), 3, 2, 5, 2 * (12 + 3 - 2) + 9, 41, 3, 2, 11, 1, 11, 1);
    }

    // ---- THE TRACE

    private static void traceFromZeroOn() {
        Check.sentence("THE TRACE: the numbers of the bodies that ran, as they began");
        EggDrop x = one(0, 6, 1);
        x.act(0, 2, 1);
        int[] due = {31, 3, 61, 2, 1};
        for (int i = 0; i < due.length; i++) {
            Check.due("trace(" + i + ")", x.trace(i), due[i]);
        }
        for (int i : new int[] {LEAST, -1, 5, 6, 19, 20, 21, MOST}) {
            Check.due("trace(" + i + ")", x.trace(i), -1);
        }
    }

    private static void traceKeepsTwenty() {
        Check.sentence("the first 20 are kept: no act has more than 7");
        EggDrop x = new EggDrop();
        for (int i = 0; i < 7; i++) {
            x.layer(i, 9 - i, 1, 0, 0);
        }
        for (int layer = 0; layer < 7; layer++) {
            for (int act = 0; act < 3; act++) {
                x.act(layer, act, 1);
                for (int i = 0; i < 22; i++) {
                    Check.due("there is one, " + layer + ", " + act + ", " + i, x.trace(i) > 0 ? 1 : 0, i < x.count(5) ? 1 : 0);
                }
            }
        }
        x.act(4, 2, 1);
        Check.due("count(5)", x.count(5), 7);
        Check.due("the seventh", x.trace(6), 1);
        Check.due("behind it", x.trace(7), -1);
    }

    private static void traceOfLatest() {
        Check.sentence("in the latest act()");
        EggDrop x = one(0, 4, 0);
        Check.due("ahead of all", x.trace(0), -1);
        Check.due("count(5)", x.count(5), 0);
        act(x, 0, 2, 1, 6, 41, 3, 2, 11, 1, 11, 1);
        act(x, 0, 0, 1, 3, 11, 1);
        act(x, 0, 1, 1, 3, 2, 11, 1);
    }

    private static void noTraceThen() {
        Check.sentence("0, and no TRACE then: no such LAYER, act");
        EggDrop x = one(1, 4, 0);
        int[][] none = {{-1, 0}, {2, 0}, {8, 0}, {LEAST, 0}, {MOST, 0}, {1, -1}, {1, 3}, {1, LEAST}, {1, MOST}, {2, 3}};
        for (int[] a : none) {
            act(x, 1, 2, 1, 2 + 7, 41, 3, 2, 11, 1, 11, 1);
            act(x, a[0], a[1], 5, 0);
        }
        act(new EggDrop(), 0, 0, 5, 0);
    }

    private static void actsChangeNothing() {
        Check.sentence("An ACT changes THE TRACE alone");
        EggDrop x = one(3, 4, 5);
        x.layer(2, 1, 1, 0, 0);
        x.act(3, 2, 7);
        String before = Check.all(x);
        for (int layer = -1; layer <= 5; layer++) {
            for (int act = -1; act <= 3; act++) {
                x.act(layer, act, MOST);
            }
        }
        x.act(3, 2, 7);
        Check.isTrue("all is as it was", before.equals(Check.all(x)));
    }

    private static void takenForKind() {
        Check.sentence("A LAYER taken for a KIND k (0 .. 6), or one under that: its v");
        String[] kinds = {"0", "01", "02", "03", "014", "025", "036"};
        for (int kind = 0; kind <= 6; kind++) {
            EggDrop x = one(1, kind, 9 - kind);
            for (int k = 0; k <= 6; k++) {
                boolean isOne = kinds[kind].indexOf('0' + k) >= 0;
                Check.due("kind " + kind + " for " + k, x.as(1, k), isOne ? 9 - kind : -6);
            }
            for (int k : new int[] {-1, 7, LEAST, MOST}) {
                Check.due("kind " + kind + " for " + k, x.as(1, k), -1);
            }
            for (int layer : new int[] {-1, 2, 8, LEAST, MOST}) {
                Check.due("layer " + layer, x.as(layer, 0), -1);
            }
        }
    }

    // ---- THE IMAGE

    private static void noImage() {
        Check.sentence("undo. STATE: there is none");
        EggDrop x = new EggDrop();
        Check.due("undo()", x.undo(), -3);
        x.layer(0, 0, 1, 0, 0);
        Check.due("undo()", x.undo(), -3);
        Check.due("the layer is there", x.count(0), 1);
        Check.due("image()", x.image(), 1);
        Check.due("undo()", x.undo(), 1);
    }

    private static void imageOfNothing() {
        Check.sentence("image, undo: how many LAYERS there are");
        EggDrop x = new EggDrop();
        Check.due("image() of none", x.image(), 0);
        String before = Check.all(x);
        for (int i = 0; i < 8; i++) {
            x.layer(6, 1, 1, 20, i % 4);
        }
        Check.schoolOf(x, "bear 1;turn 2;wind 3 f=0");
        x.drop(9, 0);
        x.see(0, 0, false);
        x.book(0, 0, 7);
        x.feed('b');
        Check.due("undo() to none", x.undo(), 0);
        Check.isTrue("all is as a new one", before.equals(Check.all(x)));
        for (int i = 0; i < 8; i++) {
            Check.due("layer " + i + " again", x.layer(0, 0, 1, 0, 0), i);
        }
        Check.due("image() of eight", x.image(), 8);
        Check.due("undo() to eight", x.undo(), 8);
    }

    /** Each thing that there is is changed alone, and is as it was behind undo(). */
    private static void imageOfAll() {
        Check.sentence("THE IMAGE: all that there is");
        for (int which = 0; which <= 15; which++) {
            EggDrop x = Twin.part();
            x.image();
            String then = Twin.lifeOf(Twin.part(), which + 1);
            change(x, which);
            Check.due("undo() behind change " + which, x.undo(), 3);
            Check.isTrue("change " + which + " is undone", then.equals(Twin.lifeOf(x, which + 1)));
        }
    }

    private static void change(EggDrop x, int which) {
        switch (which) {
            case 0: x.feed('9'); break;
            case 1: x.school(); break;
            case 2: x.layer(0, 0, 1, 20, 0); break;
            case 3: x.side(0, 3); break;
            case 4: x.broken(1, true); break;
            case 5: x.row(2, 1, 9); break;
            case 6: x.egg(); break;
            case 7: x.drop(6, 1); break;
            case 8: x.see(20, 0, true); break;
            case 9: x.see(-1, 0, true); break;
            case 10: x.book(0, 0, 9999); break;
            case 11: x.book(-1, 0, 0); break;
            case 12: x.school(); Check.feedAll(x, "price 77 y>0"); break;
            case 13: Check.schoolOf(x, ";turn 2"); Check.schoolOf(x, "turn 2;wind 50 f<9"); break;
            case 14: x.see(-1, 0, true); x.see(0, 1, false); x.see(20, 2, true); break;
            default: x.book(-1, 0, 0); x.book(9, 3, 8); x.book(2, 2, 1);
        }
    }

    private static void imageStays() {
        Check.sentence("All is as THE IMAGE: more than once");
        EggDrop x = new EggDrop();
        x.layer(6, 1, 1, 0, 0);
        x.row(0, 0, 4);
        x.image();
        for (int i = 0; i < 3; i++) {
            Check.due("the row", x.row(0, 0, 7), 4);
            x.layer(0, 0, 1, 0, 0);
            x.drop(20, 0);
            Check.due("undo()", x.undo(), 1);
            Check.due("whole", x.told(4), 1);
            Check.due("TRY", x.told(0), 0);
        }
        x.layer(0, 0, 1, 0, 0);
        Check.due("a later image", x.image(), 2);
        x.layer(0, 0, 1, 0, 0);
        Check.due("undo() to it", x.undo(), 2);
    }

    private static void imageIsNoPart() {
        Check.sentence("(but THE IMAGE ..)");
        EggDrop x = new EggDrop();
        x.image();
        x.layer(0, 0, 1, 0, 0);
        x.image();
        Check.due("undo()", x.undo(), 1);
        Check.due("the first image does not come back", x.undo(), 1);
    }

    private static void traceIsNoPart() {
        Check.sentence("(but .. THE TRACE)");
        EggDrop x = one(0, 1, 1);
        x.act(0, 0, 1);
        x.image();
        x.act(0, 2, 1);
        x.undo();
        Check.due("count(5)", x.count(5), 4);
        Check.due("trace(0)", x.trace(0), 3);
        Check.due("trace(3)", x.trace(3), 1);
    }

    private static void imageOfFullBox() {
        Check.sentence("THE IMAGE of a full box");
        EggDrop x = Twin.full();
        Check.due("image()", x.image(), 8);
        String then = Twin.lifeOf(Twin.full(), 1);
        x.see(-1, 0, true);
        x.book(-1, 0, 0);
        x.drop(20, 0);
        for (int i = 0; i < 8; i++) {
            x.side(i, 0);
            x.row(i, 0, 9);
            x.broken(i, true);
        }
        Check.due("undo()", x.undo(), 8);
        Check.isTrue("all is as it was", then.equals(Twin.lifeOf(x, 1)));
    }

    private static void imageOfBrokenEgg() {
        Check.sentence("THE IMAGE of an EGG that is whole no more");
        EggDrop x = new EggDrop();
        x.drop(3, 0);
        x.drop(20, 0);
        x.image();
        x.egg();
        x.drop(0, 0);
        Check.due("whole", x.told(4), 1);
        x.undo();
        Check.due("whole no more", x.told(4), 0);
        Check.due("its cracks", x.told(3), 1);
        Check.due("TRY", x.told(0), 2);
        Check.due("it does not fall", x.drop(0, 0), -3);
        Check.due("egg()", x.egg(), -5);
    }

    // ---- count

    private static void countsOfWhat() {
        Check.sentence("count: what 0 .. 5");
        EggDrop x = new EggDrop();
        for (int what = 0; what <= 5; what++) {
            Check.due("nothing yet: count(" + what + ")", x.count(what), 0);
        }
        x = Twin.full();
        int[] due = {8, 5, 8, 8, 100, 7};
        for (int what = 0; what <= 5; what++) {
            Check.due("full: count(" + what + ")", x.count(what), due[what]);
        }
        for (int what : new int[] {LEAST, -1, 6, MOST}) {
            Check.due("count(" + what + ")", x.count(what), -1);
        }
    }
}
