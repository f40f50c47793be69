/** Terms 2 as far as THE IMAGE: what there is not (-5), which of several, how many of SEEN and BOOK. */
public final class AskedEdgesTest {
    private static final int ALL_FLOORS = (1 << 21) - 1;

    public static void main(String[] args) {
        highestNone();
        highestAll();
        highestEachBelow();
        highestByItself();
        highestOfNow();
        bestOfSeveral();
        bestSide();
        bestWithBounce();
        lighterAllSets();
        lighterWeight();
        lighterOfSeveral();
        lighterNone();
        lighterWithout();
        shiftAnother();
        shiftIfLess();
        shiftOfSeveral();
        shiftLeast();
        triesEdges();
        triesSteps();
        failedFloors();
        failedJustTheSet();
        failedBits();
        seenEight();
        seenNone();
        strongBounds();
        strongOfNothing();
        strongNone();
        strongAll();
        strongByItself();
        strongNewEgg();
        strongOfNow();
        oddsAdded();
        oddsSides();
        oddsBounce();
        oddsLowest();
        meanLowest();
        bookEight();
        bookNone();
        bookForce();
        lookedFirst();
        lookedNone();
        lookedNow();
        Check.end();
    }

    /** A box without turns, and what the school has besides. */
    private static EggDrop box(String more) {
        return Check.withSchool("turn 0;" + more);
    }

    private static void add(EggDrop x, int n, int thick, int weight, int side) {
        for (int i = 0; i < n; i++) {
            x.layer(0, 0, thick, weight, side);
        }
    }

    // ---- HIGHEST

    private static void highestNone() {
        Check.sentence("HIGHEST (-5: none)");
        EggDrop x = box("bear 0;wind 1 f=0");
        Check.due("floor 0 breaks it", x.highest(0), -5);
        x = box("bear 99;wind 99 f=0;wind 1 f=0");
        Check.due("floor 0 breaks it, floor 1 does not", x.highest(0), -5);
        Check.due("floor 0 alone", box("bear 0").highest(0), 0);
        Check.due("floor 0 alone, by 4", box("bear 4").highest(0), 0);
        Check.due("floor 1", box("bear 5").highest(0), 1);
    }

    private static void highestAll() {
        Check.sentence("HIGHEST: no FLOOR is above 20");
        EggDrop x = box("bear 99");
        add(x, 1, 1, 0, 2);
        Check.due("99 of 100", x.highest(2), 20);
        Check.due("100", x.highest(1), 19);
    }

    private static void highestEachBelow() {
        Check.sentence("and from each one below it");
        for (int hole = 1; hole <= 20; hole++) {
            EggDrop x = box("bear 99;wind 99 f=" + hole);
            add(x, 1, 1, 0, 0);
            Check.due("a hole at " + hole, x.highest(0), hole - 1);
        }
    }

    private static void highestByItself() {
        Check.sentence("(each by itself)");
        Check.due("CRACKS do not add up", new EggDrop().highest(0), 4);
        EggDrop x = box("bear 20");
        x.layer(2, 0, 9, 0, 0);
        // floor 7: 35 - 27, and 17; floor 8: 13 cracks it, then 20 is above 17
        Check.due("what would be BROKEN is not", x.highest(0), 7);
    }

    private static void highestOfNow() {
        Check.sentence("THE EGG is whole behind it");
        EggDrop x = new EggDrop();
        x.drop(3, 0);
        Check.due("with a crack 17 are left", x.highest(0), 3);
        x.drop(20, 0);
        Check.due("whole no more", x.highest(0), -5);
        x.egg();
        Check.due("a new one", x.highest(0), 4);
    }

    // ---- BEST

    private static void bestOfSeveral() {
        Check.sentence("BEST (of several the least)");
        EggDrop x = box("bear 9");
        Check.due("all four", x.best(4, 0), 0);
        add(x, 1, 2, 0, 3);
        Check.due("3 alone", x.best(4, 0), 3);
        add(x, 1, 2, 0, 2);
        Check.due("2 and 3", x.best(4, 0), 2);
        Check.due("their FORCE", x.best(4, 1), 18);
        add(x, 1, 2, 0, 1);
        Check.due("1, 2, 3", x.best(4, 0), 1);
        add(x, 1, 3, 0, 3);
        Check.due("3 alone again", x.best(4, 0), 3);
        Check.due("its FORCE", x.best(4, 1), 15);
    }

    private static void bestSide() {
        Check.sentence("BEST: the SIDE that should be below");
        for (int floor = 0; floor <= 20; floor++) {
            EggDrop x = Check.withSchool("turn 3;wind 9 f=0");
            add(x, 1, 9, 0, 1);
            int below = Math.floorMod(1 - 3 * floor, 4);
            // above 20 the bounce may land on side 1, too; it is the lesser one of the two
            Check.due("floor " + floor, x.best(floor, 0), below);
            Check.due("its FORCE", x.best(floor, 1), floor == 0 ? 0 : Math.max(0, 5 * floor - 9));
        }
    }

    private static void bestWithBounce() {
        Check.sentence("so that FORCE is least: of both landings");
        // 40 is all taken on side 0, its half by STIFF on side 1: 18 and 3
        EggDrop x = box("bear 9");
        add(x, 5, 9, 0, 0);
        x.layer(5, 3, 6, 0, 1);
        Check.due("side 0", x.best(8, 0), 0);
        Check.due("its FORCE", x.best(8, 1), 0);
        x.side(5, 2);
        // side 0: 0 and 20; side 2: 22, as 40 breaks STIFF, and 20
        Check.due("side 0 still", x.best(8, 0), 0);
        Check.due("its FORCE is that of the bounce", x.best(8, 1), 20);
        add(x, 1, 1, 0, 3);
        add(x, 1, 9, 0, 2);
        // side 2: 13 and 19
        Check.due("side 2", x.best(8, 0), 2);
        Check.due("its FORCE is that of the bounce", x.best(8, 1), 19);
    }

    // ---- LIGHTER

    private static void lighterAllSets() {
        Check.sentence("LIGHTER: of all sets of LAYERS");
        for (int n = 0; n <= 8; n++) {
            EggDrop x = box("bear 20");
            add(x, n, 9, 1, 0);
            Check.due("all of " + n + " may go", x.lighter(0, 0, 0), (1 << n) - 1);
            Check.due("nothing is left", x.lighter(0, 0, 1), 0);
        }
        EggDrop x = box("bear 0");
        add(x, 8, 2, 2, 0);
        // 15 and 1 of WEIGHT 16; seven of them weigh 14, and leave 2
        Check.due("none of eight may go", x.lighter(3, 0, 0), 0);
        Check.due("all are left", x.lighter(3, 0, 1), 16);
        x = box("bear 20");
        add(x, 1, 5, 7, 0);
        Check.due("the one must stay", x.lighter(5, 0, 0), 0);
        Check.due("its weight", x.lighter(5, 0, 1), 7);
    }

    private static void lighterWeight() {
        Check.sentence("by which the WEIGHT of all others is least, together");
        EggDrop x = box("bear 11");
        add(x, 1, 9, 9, 0);
        add(x, 2, 5, 4, 0);
        Check.due("two light ones stay", x.lighter(4, 0, 0), 1);
        Check.due("they weigh 8", x.lighter(4, 0, 1), 8);
        x = box("bear 11");
        add(x, 2, 5, 4, 0);
        add(x, 1, 9, 7, 0);
        Check.due("a heavy one stays", x.lighter(4, 0, 0), 3);
        Check.due("it weighs 7", x.lighter(4, 0, 1), 7);
    }

    private static void lighterOfSeveral() {
        Check.sentence("LIGHTER: of several the least as bits");
        EggDrop x = box("bear 11");
        add(x, 3, 5, 4, 0);
        Check.due("two of three stay: the last ones", x.lighter(4, 0, 0), 1);
        x = box("bear 15");
        add(x, 3, 5, 4, 0);
        Check.due("one of three stays: the last one", x.lighter(4, 0, 0), 3);
        x = box("bear 11");
        add(x, 1, 9, 8, 0);
        add(x, 2, 5, 4, 0);
        Check.due("8 or 4 and 4", x.lighter(4, 0, 0), 1);
        x = box("bear 11");
        add(x, 2, 5, 4, 0);
        add(x, 1, 9, 8, 0);
        Check.due("4 and 4 or 8", x.lighter(4, 0, 0), 3);
        x = box("bear 20");
        add(x, 8, 1, 0, 0);
        Check.due("who weighs nothing stays", x.lighter(0, 0, 0), 0);
        Check.due("its weight", x.lighter(0, 0, 1), 0);
    }

    private static void lighterNone() {
        Check.sentence("LIGHTER (-5: none)");
        EggDrop x = box("bear 10");
        Check.due("no layers: the set", x.lighter(3, 0, 0), -5);
        Check.due("no layers: the weight", x.lighter(3, 0, 1), -5);
        Check.due("no layers, whole: the set", x.lighter(2, 0, 0), 0);
        Check.due("no layers, whole: the weight", x.lighter(2, 0, 1), 0);
        add(x, 1, 4, 5, 0);
        Check.due("11 of 15: the set", x.lighter(3, 0, 0), -5);
        Check.due("11 of 15: the weight", x.lighter(3, 0, 1), -5);
        x.drop(20, 0);
        Check.due("whole no more: the set", x.lighter(0, 0, 0), -5);
        Check.due("whole no more: the weight", x.lighter(0, 0, 1), -5);
    }

    private static void lighterWithout() {
        Check.sentence("LAYERS without which");
        // HUNG takes the half of 20; behind CRUMPLED's 1 of 20 it has 19, and takes 9
        EggDrop x = box("bear 10");
        x.layer(1, 0, 1, 5, 0);
        x.layer(3, 0, 2, 5, 0);
        Check.due("who is ahead of another may go", x.lighter(4, 0, 0), 1);
        x.broken(1, true);
        Check.due("a broken one does not help", x.lighter(4, 0, 0), -5);
        x.broken(1, false);
        Check.due("a whole one does", x.lighter(4, 0, 1), 5);
    }

    // ---- SHIFT

    private static void shiftAnother() {
        Check.sentence("SHIFT: the LAYER and another SIDE");
        for (int from = 0; from < 4; from++) {
            for (int to = 0; to < 4; to++) {
                EggDrop x = box("bear 9");
                add(x, 7, 1, 0, from);
                x.layer(0, 0, 2, 0, from);
                Check.due("from " + from + " to " + to, x.shift(4, to), from == to ? -5 : 70 + to);
                Check.due("they are where they were", x.of(7, 4), from);
            }
        }
    }

    private static void shiftIfLess() {
        Check.sentence("SHIFT: if less than now (-5: none)");
        Check.due("no layers", box("bear 9").shift(4, 0), -5);
        EggDrop x = box("bear 9");
        add(x, 1, 9, 0, 0);
        Check.due("it is where it should be", x.shift(4, 0), -5);
        Check.due("nothing is less than 0", x.shift(0, 1), -5);
        Check.due("5 less", x.shift(1, 1), 1);
        x.broken(0, true);
        Check.due("a broken one takes nothing anywhere", x.shift(4, 1), -5);
        // 24: 1, then 11 of 23; or 12 of 24
        x = box("bear 9;wind 4 f=4");
        add(x, 1, 1, 0, 0);
        x.layer(3, 0, 3, 0, 0);
        Check.due("as much as now", x.shift(4, 0), -5);
    }

    private static void shiftOfSeveral() {
        Check.sentence("SHIFT: of several the first by the LAYER, then the SIDE");
        EggDrop x = box("bear 9");
        add(x, 3, 2, 0, 2);
        Check.due("the first of three", x.shift(4, 0), 0);
        x.broken(0, true);
        Check.due("the second", x.shift(4, 0), 10);
        // 22: 2, then CRUMPLED takes 5 of 20; with the first elsewhere it takes 10 of 22, and the bounce has 9 at most
        x = box("bear 9;wind 2 f=4");
        x.layer(0, 0, 2, 0, 1);
        x.layer(1, 0, 5, 0, 1);
        add(x, 2, 1, 0, 2);
        Check.due("now", x.fall(4, 1, 0), 15);
        Check.due("to side 0, 2 or 3", x.shift(4, 1), 0);
        x.side(0, 0);
        x.layer(0, 0, 2, 0, 0);
        Check.due("behind CRUMPLED it takes 2 of 12", x.shift(4, 1), 41);
    }

    private static void shiftLeast() {
        Check.sentence("SHIFT: FORCE would be least");
        EggDrop x = box("bear 9");
        add(x, 1, 2, 0, 1);
        add(x, 1, 6, 0, 1);
        add(x, 1, 6, 0, 3);
        add(x, 1, 5, 0, 3);
        Check.due("the first of the two thickest", x.shift(4, 0), 10);
        Check.due("as it takes least on its side", x.shift(4, 2), 12);
    }

    // ---- TRIES

    private static void triesEdges() {
        Check.sentence("TRIES of e EGGS (1 .. 4) for n FLOORS (0 .. 99)");
        EggDrop x = new EggDrop();
        for (int eggs = 1; eggs <= 4; eggs++) {
            Check.due("no floors", x.tries(eggs, 0), 0);
            Check.due("one floor", x.tries(eggs, 1), 1);
            Check.due("-1 floors", x.tries(eggs, -1), -2);
            Check.due("100 floors", x.tries(eggs, 100), -2);
        }
        int[] most = {99, 14, 9, 8};
        for (int i = 0; i < most.length; i++) {
            Check.due("99 floors", x.tries(i + 1, 99), most[i]);
        }
        for (int eggs : new int[] {Integer.MIN_VALUE, -1, 0, 5, Integer.MAX_VALUE}) {
            Check.due(eggs + " eggs", x.tries(eggs, 0), -2);
            Check.due(eggs + " eggs", x.tries(eggs, 99), -2);
        }
    }

    private static void triesSteps() {
        Check.sentence("the fewest falls by which one surely finds the highest FLOOR");
        EggDrop x = new EggDrop();
        int[][] reach = {{1, 3, 6, 10, 15, 21, 28, 36, 45, 55, 66, 78, 91}, {1, 3, 7, 14, 25, 41, 63, 92},
            {1, 3, 7, 15, 30, 56, 98}};
        for (int i = 0; i < reach.length; i++) {
            for (int falls = 1; falls <= reach[i].length; falls++) {
                int floors = reach[i][falls - 1];
                Check.due(i + 2 + " eggs, " + floors + " floors", x.tries(i + 2, floors), falls);
                Check.due(i + 2 + " eggs, one more", x.tries(i + 2, floors + 1), falls + 1);
            }
        }
        for (int floors = 0; floors <= 99; floors++) {
            Check.due("one egg, " + floors + " floors", x.tries(1, floors), floors);
        }
    }

    // ---- FAILED

    private static void failedFloors() {
        Check.sentence("FAILED: FLOORS (as bits), 0 to 20");
        EggDrop x = box("bear 9");
        Check.due("no layers", x.failed(0, 0), ALL_FLOORS);
        x.layer(2, 0, 1, 9, 0);
        Check.due("all but floor 0", x.failed(0, 1), ALL_FLOORS - 1);
        Check.due("floor 0", x.failed(0, 0), 1);
        x.layer(0, 0, 1, 1, 2);
        Check.due("WEIGHT 10: floor 0, too", x.failed(0, 1), ALL_FLOORS);
        Check.due("none is left", x.failed(0, 0), 0);
        Check.due("by the bounce: 21 and more", x.failed(3, 1), ALL_FLOORS - 15);
        Check.due("floors 0 to 3 do not bounce", x.failed(3, 0), 15);
        x = box("wind 9 f=19;wind 3 f=20");
        x.layer(2, 9, 9, 0, 0);
        add(x, 2, 6, 0, 0);
        Check.due("91 and more", x.failed(0, 1), 1 << 19 | 1 << 20);
    }

    private static void failedJustTheSet() {
        Check.sentence("just the LAYERS of the set are BROKEN behind it");
        EggDrop x = box("bear 9");
        x.layer(2, 1, 1, 0, 0);
        x.layer(2, 1, 1, 0, 0);
        x.layer(2, 0, 1, 0, 2);
        // the first above 10: floors 3 up; the second has 3 less: floors 3 by 12, 4 .. too
        Check.due("neither", x.failed(0, 0), 7);
        Check.due("the first alone", x.failed(0, 1), 0);
        Check.due("the second alone", x.failed(0, 2), 0);
        Check.due("both", x.failed(0, 3), ALL_FLOORS - 7);
        Check.due("both and the third", x.failed(0, 7), 0);
        x.broken(2, true);
        Check.due("the third is BROKEN now", x.failed(0, 7), ALL_FLOORS - 7);
        Check.due("neither of the first", x.failed(0, 4), 7);
        Check.due("both without the third", x.failed(0, 3), 0);
    }

    private static void failedBits() {
        Check.sentence("FAILED. BAD: set (bits of no LAYERS)");
        for (int n = 0; n <= 8; n++) {
            EggDrop x = new EggDrop();
            add(x, n, 1, 0, 0);
            for (int i = 0; i < n; i++) {
                x.broken(i, true);
            }
            int all = (1 << n) - 1;
            Check.due(n + " layers, all", x.failed(0, all), ALL_FLOORS);
            Check.due(n + " layers, one bit more", x.failed(0, all + 1), -2);
            Check.due(n + " layers, all and one bit more", x.failed(0, 2 * all + 1), -2);
            for (int set : new int[] {-1, 1 << 8, 1 << 30, Integer.MIN_VALUE, Integer.MIN_VALUE + all, Integer.MAX_VALUE}) {
                Check.due(n + " layers, set " + set, x.failed(0, set), -2);
            }
        }
    }

    // ---- SEEN, STRONG

    private static void seenEight() {
        Check.sentence("SEEN .. 8 at most");
        EggDrop x = new EggDrop();
        for (int i = 1; i <= 8; i++) {
            Check.due("see " + i, x.see(4, 0, true), i);
            Check.due("count(2)", x.count(2), i);
        }
        Check.due("a ninth", x.see(1, 0, false), -4);
        Check.due("count(2)", x.count(2), 8);
        Check.due("the ninth is not there", x.strong(1), 99);
        Check.due("BOOK has none", x.count(3), 0);
    }

    private static void seenNone() {
        Check.sentence("SEEN (floor -1: none then, 0, whatever the others are)");
        for (int side : new int[] {Integer.MIN_VALUE, -1, 0, 3, 4, Integer.MAX_VALUE}) {
            EggDrop x = new EggDrop();
            Check.due("of none", x.see(-1, side, true), 0);
            for (int i = 0; i < 8; i++) {
                x.see(4, 0, true);
            }
            x.book(0, 0, 0);
            Check.due("of eight, side " + side, x.see(-1, side, side > 0), 0);
            Check.due("count(2)", x.count(2), 0);
            Check.due("BOOK stays", x.count(3), 1);
            Check.due("STRONG of none", x.strong(0), 0);
            Check.due("one again", x.see(0, 0, true), 1);
        }
        Check.due("floor -2 is none", new EggDrop().see(-2, 0, true), -1);
    }

    /** The least and the greatest that are so, 100 times the one and the other, or -5. */
    private static int strong(EggDrop x) {
        int least = x.strong(0);
        return least < 0 ? Math.min(least, x.strong(1)) : 100 * least + x.strong(1);
    }

    private static EggDrop seen(int force, boolean whole) {
        EggDrop x = box("wind " + force / 2 + " f=0;wind " + (force - force / 2) + " f=0");
        x.see(0, 0, whole);
        return x;
    }

    private static void strongBounds() {
        Check.sentence("STRONG: of bear 0 .. 99: the least, the greatest");
        Check.due("0 held", strong(seen(0, true)), 99);
        Check.due("1 held", strong(seen(1, true)), 199);
        Check.due("98 held", strong(seen(98, true)), 9899);
        Check.due("99 held", strong(seen(99, true)), 9999);
        Check.due("1 broke", strong(seen(1, false)), 0);
        Check.due("2 broke", strong(seen(2, false)), 1);
        Check.due("99 broke", strong(seen(99, false)), 98);
        Check.due("100 broke", strong(seen(100, false)), 99);
        Check.due("198 broke", strong(seen(198, false)), 99);
    }

    private static void strongOfNothing() {
        Check.sentence("STRONG: all of SEEN is so when nothing was");
        Check.due("a new object", strong(new EggDrop()), 99);
        Check.due("with a school", strong(box("bear 50;wind 9 f=0")), 99);
    }

    private static void strongNone() {
        Check.sentence("STRONG (-5: none)");
        Check.due("0 broke", strong(seen(0, false)), -5);
        Check.due("100 held", strong(seen(100, true)), -5);
        EggDrop x = seen(10, true);
        x.see(0, 1, false);
        Check.due("10 held, 10 broke", strong(x), -5);
        x.see(-1, 0, true);
        Check.due("none of them", strong(x), 99);
    }

    private static void strongAll() {
        Check.sentence("STRONG: by which all of SEEN is so");
        for (int which = 0; which < 8; which++) {
            EggDrop x = new EggDrop();
            for (int i = 0; i < 8; i++) {
                x.see(i == which ? 3 : 1, 0, true);
            }
            Check.due("15 held as " + which, strong(x), 1599);
            x.see(-1, 0, true);
            for (int i = 0; i < 8; i++) {
                x.see(i == which ? 3 : 4, 0, false);
            }
            Check.due("15 broke as " + which, strong(x), 14);
        }
    }

    private static void strongByItself() {
        Check.sentence("STRONG (each by itself, from how all is now)");
        EggDrop x = box("bear 3");
        x.layer(2, 0, 2, 0, 0);
        x.see(4, 0, true);
        x.see(4, 0, true);
        x.see(4, 0, true);
        // 20 - 6 each time: no layer is broken, no crack is left by the one before
        Check.due("14 three times", strong(x), 1499);
        Check.due("no layer is broken", x.told(7), 0);
    }

    private static void strongNewEgg() {
        Check.sentence("STRONG: for an EGG without CRACKS");
        EggDrop x = box("bear 20;wind 15 f=0");
        x.see(1, 0, true);
        Check.due("5 held", strong(x), 599);
        x.drop(0, 0);
        Check.due("a crack", x.told(3), 1);
        Check.due("5 held still", strong(x), 599);
        x.drop(20, 0);
        Check.due("whole no more", x.told(4), 0);
        Check.due("5 held still", strong(x), 599);
        Check.due("THE EGG is what it was", x.told(4), 0);
        Check.due("so are its CRACKS", x.told(3), 1);
    }

    private static void strongOfNow() {
        Check.sentence("STRONG: in place of the SCHOOL's");
        EggDrop x = new EggDrop();
        x.see(3, 0, true);
        for (int bear : new int[] {0, 15, 99}) {
            Check.schoolOf(x, "bear " + bear);
            Check.due("bear " + bear, strong(x), 1599);
            Check.due("told(1)", x.told(1), bear);
        }
        Check.schoolOf(x, "wind 3 f=3");
        Check.due("its wind counts", strong(x), 1899);
    }

    // ---- ODDS, MEAN

    private static void odds(String call, EggDrop x, int floor, long above, long below) {
        Check.due(call + ": above", x.odds(floor, 0), above);
        Check.due(call + ": below", x.odds(floor, 1), below);
    }

    private static void oddsAdded() {
        Check.sentence("ODDS: 0 .. 9 is added to BLOW, all alike likely");
        odds("0 .. 9 hold", box("bear 9"), 0, 1, 1);
        odds("0 .. 8 hold", box("bear 8"), 0, 9, 10);
        odds("0 alone holds", box("bear 0"), 0, 1, 10);
        odds("none holds", box("bear 0;wind 1 f=0"), 0, 0, 1);
        odds("5 .. 9 of 5 .. 14", box("bear 9"), 1, 1, 2);
    }

    private static void oddsSides() {
        Check.sentence("ODDS: if the SIDE below is any one");
        for (int side = 0; side < 4; side++) {
            EggDrop x = box("bear 0;wind 1 f=0");
            x.layer(0, 0, 1, 0, side);
            odds("1 of 40, on side " + side, x, 0, 1, 40);
            x.layer(0, 0, 9, 0, side);
            odds("10 of 40, on side " + side, x, 0, 1, 4);
        }
        EggDrop x = box("bear 9");
        x.drop(20, 0);
        odds("whole no more", x, 0, 0, 1);
    }

    private static void oddsBounce() {
        Check.sentence("ODDS: by what is added it BOUNCES, too");
        // side 0: of 20 .. 29 at most 2 are left, and on side 1 nothing, 10, 11, 11, ..; the others break by 20
        EggDrop x = box("bear 10");
        add(x, 3, 9, 0, 0);
        odds("20 and 21", x, 4, 1, 20);
        x = box("bear 9");
        add(x, 3, 9, 0, 0);
        odds("20 alone", x, 4, 1, 40);
        x = box("bear 14");
        add(x, 3, 9, 0, 0);
        odds("all ten", x, 4, 1, 4);
    }

    private static void oddsLowest() {
        Check.sentence("ODDS: a fraction in lowest terms");
        // each side that is safe has 10 of 40, each other one bear + 1 (to 10 at most)
        long[][] due = {{1, 10}, {1, 5}, {3, 10}, {2, 5}, {1, 2}, {3, 5}, {7, 10}, {4, 5}, {9, 10}, {1, 1}};
        for (int bear = 0; bear <= 9; bear++) {
            odds("bear " + bear, box("bear " + bear), 0, due[bear][0], due[bear][1]);
        }
        long[][] oneSafe = {{13, 40}, {2, 5}, {19, 40}, {11, 20}, {5, 8}, {7, 10}, {31, 40}, {17, 20}, {37, 40}, {1, 1}};
        for (int bear = 0; bear <= 9; bear++) {
            EggDrop x = box("bear " + bear);
            add(x, 1, 9, 0, 2);
            odds("bear " + bear + ", one side is safe", x, 0, oneSafe[bear][0], oneSafe[bear][1]);
        }
    }

    private static void mean(EggDrop x, int floor, long above, long below) {
        Check.due("MEAN: above", x.mean(floor, 0), above);
        Check.due("MEAN: below", x.mean(floor, 1), below);
    }

    private static void meanLowest() {
        Check.sentence("MEAN of FORCE over the four SIDES below, likewise");
        EggDrop x = box("bear 9");
        mean(x, 0, 0, 1);
        mean(x, 1, 5, 1);
        mean(x, 20, 100, 1);
        add(x, 1, 1, 0, 3);
        mean(x, 1, 19, 4);
        add(x, 1, 1, 0, 0);
        mean(x, 1, 9, 2);
        add(x, 1, 1, 0, 1);
        mean(x, 1, 17, 4);
        add(x, 1, 1, 0, 2);
        mean(x, 1, 4, 1);
        mean(x, 0, 0, 1);
        // 25: 24 each; the bounce of 12 is less
        mean(x, 5, 24, 1);
        x.drop(20, 0);
        mean(x, 1, 4, 1);
        x = box("wind 1 s=0;wind 2 s=2;wind 4 s=3;wind 90 f>0");
        mean(x, 0, 7, 4);
    }

    // ---- BOOK, LOOKED

    private static void bookEight() {
        Check.sentence("BOOK .. 8 at most");
        EggDrop x = new EggDrop();
        for (int i = 1; i <= 8; i++) {
            Check.due("book " + i, x.book(i, 0, 5 * i), i);
            Check.due("count(3)", x.count(3), i);
        }
        Check.due("a ninth", x.book(1, 0, 7), -4);
        Check.due("count(3)", x.count(3), 8);
        Check.due("the ninth is not there", x.looked(), -5);
        Check.due("SEEN has none", x.count(2), 0);
    }

    private static void bookNone() {
        Check.sentence("BOOK (floor -1: none then, 0, whatever the others are)");
        int[][] others = {{0, 0}, {3, 9999}, {-1, 0}, {4, 0}, {0, -1}, {0, 10000}, {-9, -9},
            {Integer.MIN_VALUE, Integer.MAX_VALUE}, {Integer.MAX_VALUE, Integer.MIN_VALUE}};
        for (int[] other : others) {
            EggDrop x = new EggDrop();
            Check.due("of none", x.book(-1, other[0], other[1]), 0);
            for (int i = 0; i < 8; i++) {
                x.book(1, 0, 77);
            }
            x.see(0, 0, true);
            Check.due("of eight", x.book(-1, other[0], other[1]), 0);
            Check.due("count(3)", x.count(3), 0);
            Check.due("SEEN stays", x.count(2), 1);
            Check.due("looked()", x.looked(), -5);
            Check.due("one again", x.book(1, 0, 77), 1);
        }
        Check.due("floor -2 is none", new EggDrop().book(-2, 0, 0), -1);
    }

    private static void bookForce() {
        Check.sentence("BAD: force (0 .. 9999)");
        EggDrop x = new EggDrop();
        Check.due("book(0, 0, 0)", x.book(0, 0, 0), 1);
        Check.due("looked()", x.looked(), -5);
        Check.due("book(0, 0, 9999)", x.book(0, 0, 9999), 2);
        Check.due("looked()", x.looked(), 1);
        for (int force : new int[] {-1, 10000, Integer.MIN_VALUE, Integer.MAX_VALUE}) {
            Check.due("book(0, 0, " + force + ")", x.book(0, 0, force), -2);
            Check.due("count(3)", x.count(3), 2);
        }
    }

    private static void lookedFirst() {
        Check.sentence("LOOKED at: the first that is not so now");
        for (int which = 0; which < 8; which++) {
            for (int off = -1; off <= 1; off += 2) {
                EggDrop x = new EggDrop();
                for (int i = 0; i < 8; i++) {
                    x.book(i + 1, i % 4, 5 * (i + 1) + (i >= which ? off : 0));
                }
                Check.due("from " + which + " on they are not", x.looked(), which);
            }
        }
    }

    private static void lookedNone() {
        Check.sentence("LOOKED at (-5: none)");
        EggDrop x = new EggDrop();
        Check.due("an empty BOOK", x.looked(), -5);
        for (int i = 0; i < 8; i++) {
            x.book(i, i % 4, 5 * i);
            Check.due("all are so", x.looked(), -5);
        }
    }

    private static void lookedNow() {
        Check.sentence("LOOKED at: that is not so now");
        EggDrop x = box("bear 20");
        add(x, 1, 3, 0, 0);
        x.book(2, 1, 10);
        x.book(2, 0, 7);
        Check.due("both are so", x.looked(), -5);
        x.broken(0, true);
        Check.due("the second is not", x.looked(), 1);
        x.side(0, 1);
        x.broken(0, false);
        Check.due("the first is not", x.looked(), 0);
        x.side(0, 0);
        Check.due("both are so again", x.looked(), -5);
        x.drop(20, 2);
        Check.due("whole no more: both are so", x.looked(), -5);
    }
}
