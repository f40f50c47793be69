/** Terms 1, the rest of its second part: how many SCHOOLS there may be, which holds, what its TESTS are of. */
public final class HoldingEdgesTest {
    public static void main(String[] args) {
        fromZeroOn();
        fiveAtMost();
        newestHolds();
        olderOnesAreGone();
        faultLeavesHolding();
        faultLeavesNothing();
        noneHolds();
        bearWithout();
        turnWithout();
        lastOfSeveral();
        floorOfWind();
        sideOfWind();
        kindOfWind();
        weightOfWind();
        tryModuloTen();
        floorOfPrice();
        sideOfPrice();
        kindOfPrice();
        thickOfPrice();
        allPrices();
        Check.end();
    }

    private static void fromZeroOn() {
        Check.sentence("SCHOOLS are numbered from 0 on");
        EggDrop x = new EggDrop();
        Check.due("schools", x.count(1), 0);
        Check.due("the first", Check.schoolOf(x, "bear 1"), 0);
        Check.due("schools", x.count(1), 1);
        Check.due("a fault has no number", Check.schoolOf(x, "bear"), -14);
        Check.due("schools", x.count(1), 1);
        Check.due("the second", Check.schoolOf(x, "bear 2"), 1);
        Check.due("schools", x.count(1), 2);
    }

    private static void fiveAtMost() {
        Check.sentence("SCHOOLS .. 5 at most");
        EggDrop x = new EggDrop();
        for (int i = 0; i < 5; i++) {
            Check.due("school " + i, Check.schoolOf(x, "bear 1" + i), i);
        }
        Check.due("a sixth", Check.schoolOf(x, "bear 99"), -4);
        Check.due("schools", x.count(1), 5);
        Check.due("the fifth holds", x.told(1), 14);
    }

    private static void newestHolds() {
        Check.sentence("the newest one holds");
        EggDrop x = new EggDrop();
        for (int i = 0; i < 5; i++) {
            Check.schoolOf(x, "bear 3" + i + ";turn " + i + ";wind 1" + i + " f=0;price 2" + i + " f=0");
            x.layer(0, 0, 1, 0, 3);
            Check.due("bear", x.told(1), 30 + i);
            Check.due("turn", x.told(2), i);
            Check.due("wind", x.fall(0, 0, 0), 10 + i);
            Check.due("price", x.of(0, 6), 20 + i);
        }
    }

    private static void olderOnesAreGone() {
        Check.sentence("the newest one holds: no clause of a longer one ahead of it does");
        EggDrop x = Check.withSchool("wind 9 f=1|f=1;wind 5 f=0;price 7 f=0;bear 3;turn 3");
        x.layer(0, 0, 1, 0, 3);
        Check.due("its wind", x.fall(0, 0, 0), 5);
        Check.due("its price", x.of(0, 6), 7);
        Check.due("a shorter one", Check.schoolOf(x, "wind 1 f=0"), 1);
        Check.due("its wind alone", x.fall(0, 0, 0), 1);
        Check.due("no price", x.of(0, 6), 0);
        Check.due("no bear", x.told(1), 20);
        Check.due("no turn", x.told(2), 1);
        Check.due("a longer fault", Check.schoolOf(x, "price 9 f=1|f=1;price 5 f=0;wind 7 f=0;"), -49);
        Check.due("a shorter one", Check.schoolOf(x, "price 1 f=0"), 2);
        Check.due("its price alone", x.of(0, 6), 1);
        Check.due("no wind", x.fall(0, 0, 0), 0);
    }

    private static void faultLeavesHolding() {
        Check.sentence("FAULT: the one that held holds");
        EggDrop x = new EggDrop();
        Check.due("a fault ahead of all", Check.schoolOf(x, "bear 7;"), -17);
        Check.due("bear", x.told(1), 20);
        Check.schoolOf(x, "bear 8;turn 3;wind 5 f=0");
        Check.due("a fault", Check.schoolOf(x, "bear 9;turn 4;wind 6 f=0;"), -35);
        Check.due("bear", x.told(1), 8);
        Check.due("turn", x.told(2), 3);
        Check.due("wind", x.fall(0, 0, 0), 5);
    }

    private static void faultLeavesNothing() {
        Check.sentence("FAULT: nothing of what was read is in the next one");
        EggDrop x = new EggDrop();
        String parts = "s=1|".repeat(22);
        for (int i = 0; i < 5; i++) {
            Check.due("a long fault", Check.schoolOf(x, "wind 9 " + parts + "f"), -106);
            Check.due("one of clauses", Check.schoolOf(x, "wind 70 f=0;".repeat(8) + "x"), -106);
            Check.due("a long school", Check.schoolOf(x, "wind 1" + i + " " + parts + "f=0"), i);
            Check.due("its wind", x.fall(0, 0, 0), 10 + i);
            Check.due("its bear", x.told(1), 20);
        }
    }

    private static void noneHolds() {
        Check.sentence("without one there are no CLAUSES");
        EggDrop x = new EggDrop();
        x.layer(6, 9, 9, 9, 3);
        Check.due("no wind", x.fall(0, 0, 0), 0);
        Check.due("no price", x.of(0, 6), 0);
        Check.due("no prices", x.told(6), 0);
        Check.feedAll(x, "bear 1;wind 9 f=0");
        Check.due("a tape is none", x.fall(0, 0, 0), 0);
    }

    private static void bearWithout() {
        Check.sentence("bear (20 without)");
        Check.due("without a school", new EggDrop().told(1), 20);
        Check.due("without bear", Check.withSchool("turn 3;wind 4 f=0;price 5 f=0").told(1), 20);
        Check.due("bear 0", Check.withSchool("bear 0").told(1), 0);
        Check.due("bear 99", Check.withSchool("bear 99").told(1), 99);
        EggDrop x = Check.withSchool("bear 5");
        Check.due("an older school's does not count", Check.schoolOf(x, "turn 1"), 1);
        Check.due("bear", x.told(1), 20);
    }

    private static void turnWithout() {
        Check.sentence("turn (1 without)");
        Check.due("without a school", new EggDrop().told(2), 1);
        Check.due("without turn", Check.withSchool("bear 3;wind 4 f=0;price 5 f=0").told(2), 1);
        Check.due("turn 0", Check.withSchool("turn 0").told(2), 0);
        Check.due("turn 99", Check.withSchool("turn 99").told(2), 99);
        EggDrop x = Check.withSchool("turn 5");
        Check.due("an older school's does not count", Check.schoolOf(x, "bear 1"), 1);
        Check.due("turn", x.told(2), 1);
    }

    private static void lastOfSeveral() {
        Check.sentence("the last n");
        Check.due("bear", Check.withSchool("bear 50;bear 3;bear 40").told(1), 40);
        Check.due("bear, the least last", Check.withSchool("bear 50;turn 9;bear 0").told(1), 0);
        Check.due("turn", Check.withSchool("turn 5;bear 9;turn 3;turn 4").told(2), 4);
        Check.due("turn, the least last", Check.withSchool("turn 5;turn 0;bear 9").told(2), 0);
        Check.due("ten", Check.withSchool("bear 9;".repeat(9) + "bear 8").told(1), 8);
    }

    /** What comes to BLOW by a wind of 1; 5 times FLOOR is what it is without. */
    private static int wind(String condition, int floor, int side) {
        return Check.withSchool("turn 1;wind 1 " + condition).fall(floor, side, 0) - 5 * floor;
    }

    private static void floorOfWind() {
        Check.sentence("of wind: f FLOOR of the fall");
        for (int floor = 0; floor <= 20; floor++) {
            Check.due("f=" + floor, wind("f=" + floor, floor, 0), 1);
            Check.due("f<" + floor, wind("f<" + floor, floor, 0), 0);
            Check.due("f>" + floor, wind("f>" + floor, floor, 0), 0);
        }
    }

    private static void sideOfWind() {
        Check.sentence("of wind: s the SIDE on which it lands");
        for (int floor = 0; floor <= 8; floor++) {
            for (int side = 0; side < 4; side++) {
                for (int s = 0; s < 4; s++) {
                    int due = s == (side + floor) % 4 ? 1 : 0;
                    Check.due("s=" + s + ", floor " + floor + ", side " + side, wind("s=" + s, floor, side), due);
                }
            }
        }
    }

    private static void kindOfWind() {
        Check.sentence("of wind: k 9");
        for (int kind = 0; kind <= 6; kind++) {
            EggDrop x = Check.withSchool("wind 1 k=" + kind + ";wind 2 k<9;wind 4 k>9;wind 8 k=9");
            x.layer(kind, 0, 1, 0, 3);
            Check.due("a layer of kind " + kind, x.fall(0, 0, 0), 8);
        }
    }

    private static void weightOfWind() {
        Check.sentence("of wind: t WEIGHT of all LAYERS, together, by 10 (cut)");
        int[][] weights = {{}, {9}, {10}, {10, 9}, {20}, {9, 9, 9, 2}, {9, 9, 9, 3}, {20, 20, 20, 20, 20, 20, 20, 19},
            {20, 20, 20, 20, 20, 20, 20, 20}};
        int[] due = {0, 0, 1, 1, 2, 2, 3, 15, 16};
        for (int i = 0; i < weights.length; i++) {
            EggDrop x = Check.withSchool("wind 40 t=" + due[i] + ";wind 50 t>" + due[i] + ";wind 60 t<" + due[i]);
            for (int weight : weights[i]) {
                x.broken(x.layer(0, 0, 9, weight, 3), true);
            }
            Check.due("t is " + due[i], x.fall(0, 0, 0), 40 + due[i]);
        }
    }

    private static void tryModuloTen() {
        Check.sentence("y TRY modulo 10");
        EggDrop x = Check.withSchool("wind 1 y=0;wind 2 y=1;wind 3 y=9;wind 4 y>9;price 5 y=0;price 6 y=9;price 7 y>9");
        x.layer(0, 0, 1, 0, 3);
        for (int i = 0; i <= 21; i++) {
            int y = i % 10;
            Check.due("price at TRY " + i, x.of(0, 6), y == 0 ? 5 : y == 9 ? 6 : 0);
            Check.due("wind at TRY " + i, x.drop(0, 0), y == 0 ? 1 : y == 1 ? 2 : y == 9 ? 3 : 0);
        }
    }

    private static void floorOfPrice() {
        Check.sentence("of price: f 0");
        EggDrop x = Check.withSchool("price 1 f=0;price 2 f>0;price 4 f<1");
        x.layer(0, 0, 1, 0, 3);
        Check.due("its price", x.of(0, 6), 5);
        x.drop(3, 0);
        Check.due("behind a fall from floor 3", x.of(0, 6), 5);
    }

    private static void sideOfPrice() {
        Check.sentence("of price: s SIDE of a LAYER");
        EggDrop x = Check.withSchool("price 1 s=0;price 2 s=1;price 4 s=2;price 8 s=3;price 16 s>3");
        for (int side = 0; side < 4; side++) {
            x.layer(0, 0, 1, 0, side);
            Check.due("side " + side, x.of(side, 6), 1 << side);
        }
        x.side(0, 3);
        Check.due("moved", x.of(0, 6), 8);
    }

    private static void kindOfPrice() {
        Check.sentence("of price: k KIND");
        EggDrop x = Check.withSchool(
            "price 1 k=0;price 2 k=1;price 4 k=2;price 8 k=3;price 16 k=4;price 32 k=5;price 64 k=6;price 99 k=9");
        for (int kind = 0; kind <= 6; kind++) {
            x.layer(kind, 0, 1, 0, 0);
            Check.due("kind " + kind, x.of(kind, 6), 1 << kind);
        }
    }

    private static void thickOfPrice() {
        Check.sentence("of price: t THICK of a LAYER");
        EggDrop x = Check.withSchool("price 1 t=1;price 2 t>1;price 4 t=9;price 8 t<9;price 16 t>9;price 32 t<1");
        x.layer(0, 9, 1, 20, 0);
        x.layer(0, 1, 9, 20, 0);
        x.layer(0, 0, 5, 20, 0);
        Check.due("THICK 1", x.of(0, 6), 9);
        Check.due("THICK 9", x.of(1, 6), 6);
        Check.due("THICK 5", x.of(2, 6), 10);
    }

    private static void allPrices() {
        Check.sentence("its price (the n of all price whose E holds)");
        EggDrop x = Check.withSchool(
            "bear 9;price 99 f=0;price 99 f=0;price 99 f=1;wind 50 f=0;price 99 f=0;price 99 k=1;price 98 k=0");
        x.layer(0, 0, 1, 0, 0);
        x.layer(1, 0, 1, 0, 0);
        x.layer(2, 0, 1, 0, 0);
        x.broken(2, true);
        Check.due("three and 98", x.of(0, 6), 395);
        Check.due("four", x.of(1, 6), 396);
        Check.due("three, of a broken one", x.of(2, 6), 297);
        Check.due("of all, together", x.told(6), 395 + 396 + 297);
        for (int i = 3; i < 8; i++) {
            x.layer(3, 0, 1, 0, 0);
        }
        Check.due("of eight", x.told(6), 395 + 396 + 6 * 297);
    }
}
