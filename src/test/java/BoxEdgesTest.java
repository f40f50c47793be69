/** Terms 1, its first part: how many LAYERS there may be, the bounds of their numbers, what is so at first. */
public final class BoxEdgesTest {
    public static void main(String[] args) {
        fromZeroOn();
        eightAtMost();
        kinds();
        numbers();
        thick();
        weights();
        sidesOfNew();
        sidesMoved();
        notBrokenAtFirst();
        rowOfThree();
        rowBounds();
        rowZeroAtFirst();
        newEgg();
        newTry();
        Check.end();
    }

    /** Between its bounds a number of layer() is taken and told again; one beyond them is refused. */
    private static void bounds(int at, int least, int greatest, int refusal) {
        for (int n = least; n <= greatest; n++) {
            EggDrop x = new EggDrop();
            Check.due("argument " + at + " is " + n, layerWith(x, at, n), 0);
            Check.due("told again", x.of(0, at), n);
        }
        for (int n : new int[] {least - 1, greatest + 1, Integer.MIN_VALUE, Integer.MAX_VALUE}) {
            EggDrop x = new EggDrop();
            Check.due("argument " + at + " is " + n, layerWith(x, at, n), refusal);
            Check.due("no layer came", x.count(0), 0);
        }
    }

    private static int layerWith(EggDrop x, int at, int n) {
        int[] a = {2, 5, 5, 5, 2};
        a[at] = n;
        return x.layer(a[0], a[1], a[2], a[3], a[4]);
    }

    private static void fromZeroOn() {
        Check.sentence("LAYERS are numbered from 0 on");
        EggDrop x = new EggDrop();
        Check.due("of(0, 1) ahead of the first", x.of(0, 1), -1);
        Check.due("the first", x.layer(0, 7, 1, 0, 0), 0);
        Check.due("of(0, 1)", x.of(0, 1), 7);
        Check.due("of(1, 1)", x.of(1, 1), -1);
        Check.due("the second", x.layer(0, 8, 1, 0, 0), 1);
        Check.due("of(1, 1)", x.of(1, 1), 8);
    }

    private static void eightAtMost() {
        Check.sentence("8 at most");
        EggDrop x = new EggDrop();
        for (int i = 0; i < 8; i++) {
            Check.due("layer " + i, x.layer(0, i, 1, 1, 0), i);
        }
        Check.due("a ninth", x.layer(1, 9, 9, 9, 3), -4);
        Check.due("layers", x.count(0), 8);
        Check.due("weight", x.told(5), 8);
        Check.due("the eighth", x.of(7, 1), 7);
        Check.due("none behind it", x.of(8, 1), -1);
    }

    private static void kinds() {
        Check.sentence("each of a KIND: 0 LAYER .. 6 TOLD");
        bounds(0, 0, 6, -1);
    }

    private static void numbers() {
        Check.sentence("a number v (0 .. 9)");
        bounds(1, 0, 9, -2);
    }

    private static void thick() {
        Check.sentence("THICK (1 .. 9)");
        bounds(2, 1, 9, -2);
    }

    private static void weights() {
        Check.sentence("WEIGHT (0 .. 20)");
        bounds(3, 0, 20, -2);
    }

    private static void sidesOfNew() {
        Check.sentence("a SIDE (0 .. 3) of the box");
        bounds(4, 0, 3, -1);
    }

    private static void sidesMoved() {
        Check.sentence("a SIDE (0 .. 3) of the box: side()");
        EggDrop x = new EggDrop();
        x.layer(0, 0, 1, 0, 2);
        Check.due("side(0, 0)", x.side(0, 0), 2);
        Check.due("side(0, 3)", x.side(0, 3), 0);
        for (int side : new int[] {-1, 4, Integer.MIN_VALUE, Integer.MAX_VALUE}) {
            Check.due("side(0, " + side + ")", x.side(0, side), -1);
            Check.due("it is where it was", x.of(0, 4), 3);
        }
    }

    private static void notBrokenAtFirst() {
        Check.sentence("BROKEN, or not (not at first)");
        EggDrop x = new EggDrop();
        for (int i = 0; i < 8; i++) {
            x.layer(i % 7, 0, 1, 0, 0);
            Check.due("of(" + i + ", 5)", x.of(i, 5), 0);
            Check.due("told(7)", x.told(7), (1 << i) - 1);
            Check.due("broken(" + i + ", true)", x.broken(i, true), 0);
            Check.due("of(" + i + ", 5) then", x.of(i, 5), 1);
        }
        for (int i = 0; i < 8; i++) {
            Check.due("broken(" + i + ", false)", x.broken(i, false), 1);
            Check.due("told(7)", x.told(7), 255 - (2 << i) + 1);
        }
    }

    private static void rowOfThree() {
        Check.sentence("TOLD ones a ROW of three numbers");
        EggDrop x = new EggDrop();
        x.layer(6, 0, 1, 0, 0);
        x.layer(6, 0, 1, 0, 0);
        for (int k = 0; k < 3; k++) {
            x.row(0, k, k + 1);
            x.row(1, k, k + 4);
        }
        for (int k : new int[] {-1, 3, 4, Integer.MIN_VALUE, Integer.MAX_VALUE}) {
            Check.due("row(0, " + k + ", 9)", x.row(0, k, 9), -1);
        }
        for (int k = 0; k < 3; k++) {
            Check.due("the number " + k + " of the first", x.row(0, k, 0), k + 1);
            Check.due("the number " + k + " of the second", x.row(1, k, 0), k + 4);
        }
    }

    private static void rowBounds() {
        Check.sentence("a ROW of three numbers (0 .. 9)");
        EggDrop x = new EggDrop();
        x.layer(6, 0, 1, 0, 0);
        int was = 0;
        for (int n = 9; n >= 0; n--) {
            Check.due("row(0, 2, " + n + ")", x.row(0, 2, n), was);
            was = n;
        }
        x.row(0, 2, 4);
        for (int n : new int[] {-1, 10, Integer.MIN_VALUE, Integer.MAX_VALUE}) {
            Check.due("row(0, 2, " + n + ")", x.row(0, 2, n), -2);
        }
        Check.due("it is what it was", x.row(0, 2, 4), 4);
    }

    private static void rowZeroAtFirst() {
        Check.sentence("a ROW of three numbers (0 at first)");
        for (int layer = 0; layer < 8; layer++) {
            EggDrop x = new EggDrop();
            for (int i = 0; i <= layer; i++) {
                x.layer(6, 9, 9, 9, 0);
            }
            for (int k = 0; k < 3; k++) {
                Check.due("row(" + layer + ", " + k + ", 9)", x.row(layer, k, 9), 0);
            }
        }
    }

    private static void newEgg() {
        Check.sentence("THE EGG is whole, with CRACKS (0 at first)");
        EggDrop x = new EggDrop();
        Check.due("told(4)", x.told(4), 1);
        Check.due("told(3)", x.told(3), 0);
        Check.due("egg()", x.egg(), 0);
    }

    private static void newTry() {
        Check.sentence("TRY: 0 at first");
        EggDrop x = new EggDrop();
        Check.due("told(0)", x.told(0), 0);
        x.drop(0, 0);
        Check.due("told(0) behind a fall", x.told(0), 1);
    }
}
