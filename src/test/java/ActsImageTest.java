/** Promises 25 to 30. */
public final class ActsImageTest {
    public static void main(String[] args) {
        acts();
        wrapping();
        noAct();
        as();
        imageOfAll();
        imageOfRows();
        images();
        imageOfSchools();
        undoneLayers();
        counts();
        Check.end();
    }

    private static void act(EggDrop x, int layer, int act, int given, int answer, int... bodies) {
        String call = "act(" + layer + ", " + act + ", " + given + ")";
        Check.due(call, x.act(layer, act, given), answer);
        Check.due(call + ": bodies", x.count(5), bodies.length);
        for (int i = 0; i < bodies.length; i++) {
            Check.due(call + ": trace(" + i + ")", x.trace(i), bodies[i]);
        }
        Check.due(call + ": behind the trace", x.trace(bodies.length), -1);
        Check.due(call + ": ahead of the trace", x.trace(-1), -1);
    }

    /** Layer i is of kind i, and v is i + 2. */
    private static EggDrop oneOfEach() {
        EggDrop x = new EggDrop();
        for (int kind = 0; kind <= 6; kind++) {
            x.layer(kind, kind + 2, 1, 0, 0);
        }
        return x;
    }

    private static void acts() {
        EggDrop x = oneOfEach();
        act(x, 0, 0, 5, 5, 1);
        act(x, 0, 1, 5, 3, 2, 1);
        act(x, 0, 2, 5, 6, 3, 2, 1);
        act(x, 1, 0, 5, 16, 11, 1);
        act(x, 1, 1, 5, 13, 2, 11, 1);
        act(x, 1, 2, 5, 26, 3, 2, 11, 1);
        act(x, 2, 0, 5, 7, 1);
        act(x, 2, 1, 5, -3, 21, 2, 1);
        act(x, 2, 2, 5, -6, 3, 21, 2, 1);
        act(x, 3, 0, 5, 8, 1);
        act(x, 3, 1, 5, 3, 2, 1);
        act(x, 3, 2, 5, 6 ^ 7, 31, 3, 2, 1);
        act(x, 4, 0, 5, 19, 11, 1);
        act(x, 4, 1, 5, 13, 2, 11, 1);
        act(x, 4, 2, 5, (16 - 6) * 2 + 10, 41, 3, 2, 11, 1, 11, 1);
        act(x, 5, 0, 5, 10 ^ 5, 51, 1);
        act(x, 5, 1, 5, -((10 ^ 5) - 7), 21, 2, 51, 1);
        act(x, 5, 2, 5, -2 * ((10 ^ 5) - 7), 3, 21, 2, 51, 1);
        act(x, 6, 0, 5, 11, 1);
        act(x, 6, 1, 5, 11, 61, 2, 1);
        act(x, 6, 2, 5, 22 ^ 7, 31, 3, 61, 2, 1);
        act(x, 6, 2, -5, (2 * (-5 + 6)) ^ 7, 31, 3, 61, 2, 1);
        String before = Check.all(x);
        x.act(6, 2, -5);
        Check.isTrue("an act changes nothing but the trace", before.equals(Check.all(x)));
    }

    private static void wrapping() {
        EggDrop x = oneOfEach();
        int most = Integer.MAX_VALUE;
        int least = Integer.MIN_VALUE;
        act(x, 1, 0, most, most * 3 + 1, 11, 1);
        act(x, 2, 0, most, least + 1, 1);
        act(x, 0, 1, least, most - 1, 2, 1);
        act(x, 0, 2, least, (most - 1) * 2, 3, 2, 1);
        act(x, 4, 2, least, (most * 3 + 4 - 6) * 2 + 10, 41, 3, 2, 11, 1, 11, 1);
        act(x, 2, 1, least + 2, least, 21, 2, 1);
    }

    private static void noAct() {
        EggDrop x = oneOfEach();
        act(x, 4, 2, 1, 6, 41, 3, 2, 11, 1, 11, 1);
        act(x, 7, 0, 1, 0);
        act(x, 4, 2, 1, 6, 41, 3, 2, 11, 1, 11, 1);
        act(x, -1, 0, 1, 0);
        act(x, 4, 2, 1, 6, 41, 3, 2, 11, 1, 11, 1);
        act(x, 4, 3, 1, 0);
        act(x, 4, 2, 1, 6, 41, 3, 2, 11, 1, 11, 1);
        act(x, 4, -1, 1, 0);
        Check.due("trace(greatest)", x.trace(Integer.MAX_VALUE), -1);
        Check.due("trace(least)", x.trace(Integer.MIN_VALUE), -1);
    }

    private static void as() {
        EggDrop x = oneOfEach();
        String[] kinds = {"0", "01", "02", "03", "014", "025", "036"};
        for (int layer = 0; layer <= 6; layer++) {
            for (int k = 0; k <= 6; k++) {
                int due = kinds[layer].indexOf('0' + k) >= 0 ? layer + 2 : -6;
                Check.due("as(" + layer + ", " + k + ")", x.as(layer, k), due);
            }
        }
        Check.due("as(7, 0)", x.as(7, 0), -1);
        Check.due("as(-1, 0)", x.as(-1, 0), -1);
        Check.due("as(0, 7)", x.as(0, 7), -1);
        Check.due("as(0, -1)", x.as(0, -1), -1);
    }

    private static EggDrop full() {
        EggDrop x = Check.withSchool("turn 0;bear 30;price 4 k=6");
        x.layer(6, 3, 2, 9, 1);
        x.layer(2, 1, 2, 8, 0);
        x.row(0, 1, 5);
        x.drop(4, 3);
        x.see(4, 3, true);
        x.book(4, 3, 20);
        Check.feedAll(x, "bear ");
        x.act(0, 2, 1);
        return x;
    }

    private static void imageOfAll() {
        EggDrop x = full();
        String before = Check.all(x);
        Check.due("image()", x.image(), 2);
        Check.due("one more sign", x.feed('7'), 6);
        Check.due("the next school", x.school(), 1);
        x.layer(0, 0, 1, 0, 0);
        x.side(0, 2);
        x.broken(0, true);
        x.row(0, 1, 9);
        x.drop(2, 0);
        x.drop(20, 0);
        x.see(1, 1, false);
        x.book(1, 1, 1);
        Check.due("whole no more", x.told(4), 0);
        Check.due("undo()", x.undo(), 2);
        Check.isTrue("all is as the image", before.equals(Check.all(x)));
        Check.due("the row", x.row(0, 1, 0), 5);
        Check.due("the tape", x.feed('8'), 6);
        Check.due("its school", x.school(), 1);
        Check.due("its bear", x.told(1), 8);
        x.see(-1, 0, true);
        x.book(-1, 0, 0);
        x.egg();
        Check.due("undo() once more", x.undo(), 2);
        Check.isTrue("all is as the image again", before.equals(Check.all(x)));
    }

    /** What was emptied and written anew behind the image is as it was, too. */
    private static void imageOfRows() {
        EggDrop x = Check.withSchool("turn 0");
        for (int i = 0; i < 8; i++) {
            x.layer(6, 0, 1 + i % 4, 0, i % 4);
            x.row(i, 2, i + 1);
        }
        x.see(4, 0, true);
        x.book(19, 2, 77);
        Check.feedAll(x, "bear 4");
        x.image();
        int force = x.fall(4, 0, 0);
        Check.due("the tape is a school", x.school(), 1);
        Check.feedAll(x, "turn 7");
        x.see(-1, 0, true);
        x.see(20, 1, false);
        x.book(-1, 0, 0);
        x.book(4, 0, force);
        for (int i = 0; i < 8; i++) {
            x.row(i, 2, 0);
        }
        Check.due("it is so", x.looked(), -5);
        Check.due("undo()", x.undo(), 8);
        Check.due("the row of BOOK", x.looked(), 0);
        Check.due("SEEN: the least", x.strong(0), force);
        Check.due("SEEN: the greatest", x.strong(1), 99);
        for (int i = 0; i < 8; i++) {
            Check.due("the row of " + i, x.row(i, 2, 0), i + 1);
        }
        Check.due("the tape's school", x.school(), 1);
        Check.due("its bear", x.told(1), 4);
        Check.due("its turn", x.told(2), 1);
    }

    private static void images() {
        EggDrop x = new EggDrop();
        Check.due("undo() without one", x.undo(), -3);
        Check.due("image() of nothing", x.image(), 0);
        x.layer(0, 0, 1, 0, 0);
        Check.due("the latest one", x.image(), 1);
        x.layer(0, 0, 1, 0, 0);
        Check.due("undo() to it", x.undo(), 1);
        x.layer(5, 1, 1, 0, 0);
        Check.due("an act", x.act(1, 0, 4), 4);
        Check.due("undo()", x.undo(), 1);
        Check.due("the trace is no part of it", x.trace(0), 51);
        Check.due("nor how many ran", x.count(5), 2);
    }

    private static void imageOfSchools() {
        EggDrop x = Check.withSchool("bear 1");
        x.image();
        Check.due("a second", Check.schoolOf(x, "bear 2"), 1);
        Check.due("a third with a fault", Check.schoolOf(x, "bear 3;"), -17);
        Check.due("the second holds", x.told(1), 2);
        x.undo();
        Check.due("the first holds", x.told(1), 1);
        Check.due("another second", Check.schoolOf(x, "bear 4;turn 5"), 1);
        Check.due("it holds", x.told(1), 4);
        x.image();
        for (int i = 2; i < 5; i++) {
            Check.due("more", Check.schoolOf(x, "bear 5" + i), i);
        }
        Check.due("full", x.school(), -4);
        x.undo();
        Check.due("the second holds again", x.told(1), 4);
        Check.due("its turn", x.told(2), 5);
        Check.due("two", x.count(1), 2);
    }

    private static void undoneLayers() {
        EggDrop x = new EggDrop();
        x.image();
        x.layer(6, 9, 9, 20, 3);
        x.row(0, 0, 7);
        x.row(0, 1, 8);
        x.row(0, 2, 9);
        x.broken(0, true);
        x.undo();
        Check.due("nobody is broken", x.told(7), 0);
        x.layer(6, 1, 2, 3, 0);
        Check.due("not broken at first", x.of(0, 5), 0);
        Check.due("0 at first", x.row(0, 0, 1), 0);
        Check.due("0 at first", x.row(0, 1, 1), 0);
        Check.due("0 at first", x.row(0, 2, 1), 0);
        Check.due("its weight", x.told(5), 3);
    }

    private static void counts() {
        EggDrop x = full();
        int[] due = {2, 1, 1, 1, 5, 5};
        for (int what = 0; what < due.length; what++) {
            Check.due("count(" + what + ")", x.count(what), due[what]);
        }
        Check.due("count(-1)", x.count(-1), -1);
        Check.due("count(6)", x.count(6), -1);
    }
}
