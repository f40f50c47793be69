/** No call throws or fails to end, for any arguments in any state; what is refused changes nothing. */
public final class AnyArgumentsTest {
    private static final int[] ODD = {
        Integer.MIN_VALUE, Integer.MIN_VALUE + 1, -1000, -2, -1, 0, 1, 2, 3, 4, 5, 6, 7, 8, 9, 10, 20, 21, 31, 32,
        33, 63, 64, 99, 100, 127, 128, 255, 256, 9999, 10000, Integer.MAX_VALUE - 1, Integer.MAX_VALUE,
    };

    public static void main(String[] args) {
        everyCall(new EggDrop());
        everyCall(full());
        EggDrop broken = full();
        broken.drop(20, 0);
        Check.due("whole no more", broken.told(4), 0);
        everyCall(broken);
        refusalsChangeNothing();
        Check.end();
    }

    /** Eight layers of all kinds, five schools, a tape, all rows told, an image. */
    private static EggDrop full() {
        EggDrop x = new EggDrop();
        for (int i = 0; i < 8; i++) {
            x.layer(i % 7, 9 - i, i + 1, i, i % 4);
        }
        for (int i = 0; i < 5; i++) {
            Check.schoolOf(x, "bear 9" + i + ";wind 9 !(f=1|!s<2&(y>3|t=4));price 9 k=2|s>1");
        }
        Check.feedAll(x, "wind 5 ((((");
        for (int i = 0; i < 8; i++) {
            x.see(i, i % 4, true);
            x.book(i, i % 4, i);
        }
        x.image();
        return x;
    }

    private static void everyCall(EggDrop x) {
        for (int a : ODD) {
            ofOne(x, a);
            for (int b : ODD) {
                ofTwo(x, a, b);
            }
        }
        x.school();
        x.school();
        x.looked();
        x.undo();
        Check.due("it goes on", x.count(0) < 0 ? 1 : 0, 0);
    }

    private static void ofOne(EggDrop x, int a) {
        x.told(a);
        x.highest(a);
        x.strong(a);
        x.trace(a);
        x.count(a);
        x.broken(a, true);
        x.broken(a, false);
        x.feed(a);
    }

    private static void ofTwo(EggDrop x, int a, int b) {
        x.of(a, b);
        x.as(a, b);
        x.best(a, b);
        x.shift(a, b);
        x.tries(a, b);
        x.failed(a, b);
        x.odds(a, b);
        x.mean(a, b);
        x.side(a, b);
        x.see(a, b, true);
        x.drop(a, b);
        for (int c : new int[] {Integer.MIN_VALUE, -1, 0, 1, 2, 3, 10, Integer.MAX_VALUE}) {
            x.fall(a, b, c);
            x.lighter(a, b, c);
            x.row(a, b, c);
            x.act(a, b, c);
            x.book(a, b, c);
            x.layer(a, b, c, a, b);
            x.layer(c, a, b, c, a);
        }
    }

    private static void refusalsChangeNothing() {
        EggDrop x = full();
        x.drop(20, 0);
        x.act(4, 2, 1);
        String before = Check.all(x);
        long sum = x.feed(-1) + x.feed(128) + x.school() + x.layer(0, 0, 1, 0, 0) + x.layer(7, 0, 1, 0, 0)
            + x.layer(0, 0, 0, 0, 0) + x.of(8, 0) + x.side(8, 0) + x.side(0, 4) + x.broken(8, true)
            + x.row(0, 0, 0) + x.row(6, 3, 0) + x.row(6, 0, 10) + x.told(8) + x.drop(21, 0) + x.drop(0, 0)
            + x.see(0, 0, true) + x.see(0, 4, true) + x.book(0, 0, 0) + x.book(0, 0, -1) + x.book(0, 4, 0)
            + x.as(0, 7) + x.count(6) + x.trace(7);
        int none = 13, bad = 5, state = 2, full = 4;
        Check.due("the refusals", sum, -none - 2 * bad - 3 * state - 4 * full);
        Check.isTrue("refusals change nothing", before.equals(Check.all(x)));
        Check.due("nor the image", x.undo(), 8);
        Check.due("which is of a whole egg", x.told(4), 1);
    }
}
