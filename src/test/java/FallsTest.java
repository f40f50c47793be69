/** Promises 11 to 14. */
public final class FallsTest {
    public static void main(String[] args) {
        landing();
        blow();
        bounce();
        layer();
        crumpled();
        standing();
        hung();
        loose();
        stiff();
        toldOnes();
        oneByOne();
        cracks();
        eggOfTwoLandings();
        brokenEgg();
        drops();
        dropRefusals();
        fallRefusals();
        highest();
        best();
        Check.end();
    }

    private static void landing() {
        EggDrop x = new EggDrop();
        Check.due("side 3 and 3 floors", x.fall(3, 3, 1), 2);
        Check.due("20 floors", x.fall(20, 1, 1), 1);
        x = Check.withSchool("turn 7");
        Check.due("turn 7, 3 floors", x.fall(3, 2, 1), 3);
        x = Check.withSchool("turn 0");
        Check.due("turn 0", x.fall(19, 2, 1), 2);
        x = Check.withSchool("turn 99");
        Check.due("turn 99, 20 floors", x.fall(20, 3, 1), 3);
        Check.due("turn 99, 19 floors", x.fall(19, 3, 1), 0);
    }

    private static void blow() {
        EggDrop x = new EggDrop();
        Check.due("floor 0", x.fall(0, 0, 0), 0);
        Check.due("floor 20", x.fall(20, 0, 0), 100);
        x.layer(0, 0, 1, 19, 2);
        x.layer(0, 0, 1, 20, 2);
        x.broken(0, true);
        Check.due("weight 39, of broken ones too", x.fall(4, 0, 0), 23);
        x.layer(0, 0, 1, 1, 2);
        Check.due("weight 40", x.fall(4, 0, 0), 24);
        x = Check.withSchool("wind 3 f=4;wind 4 s=0;wind 90 s=1;price 9 f=4;wind 50 f=5");
        Check.due("two winds", x.fall(4, 0, 0), 27);
    }

    private static void bounce() {
        EggDrop x = new EggDrop();
        x.layer(0, 0, 9, 0, 0);
        Check.due("20 does not bounce", x.fall(4, 0, 0), 11);
        x.layer(0, 0, 9, 0, 0);
        x.layer(0, 0, 9, 0, 0);
        Check.due("20 is taken", x.fall(4, 0, 0), 0);
        x.layer(0, 0, 1, 10, 2);
        Check.due("21 bounces: 10", x.fall(4, 0, 0), 10);
        x.side(0, 3);
        x.side(1, 3);
        x.side(2, 3);
        Check.due("21 on side 3", x.fall(4, 3, 0), 10);
        x.layer(0, 0, 7, 0, 0);
        Check.due("behind side 3 comes side 0", x.fall(4, 3, 0), 3);
        Check.due("it lands first on", x.fall(4, 3, 1), 3);
        x = Check.withSchool("turn 0;wind 9 s=0;wind 80 s=1");
        for (int i = 0; i < 4; i++) {
            x.layer(0, 0, 9, 0, 0);
        }
        Check.due("nothing is added to the half of 29", x.fall(4, 0, 0), 14);
        Check.due("the greater one of both", x.fall(20, 0, 0), 109 - 36);
    }

    private static void one(int kind, int v, int thick, int floor, int force, int broken) {
        EggDrop x = Check.withSchool("turn 0");
        x.layer(kind, v, thick, 0, 0);
        String call = "kind " + kind + ", v " + v + ", thick " + thick + ", floor " + floor;
        Check.due(call, x.fall(floor, 0, 0), force);
        Check.due(call + ": broken", x.fall(floor, 0, 4), broken);
    }

    private static void layer() {
        one(0, 9, 4, 4, 16, 0);
        one(0, 9, 9, 1, 0, 0);
        one(0, 9, 1, 20, 99, 0);
    }

    private static void crumpled() {
        one(1, 9, 4, 4, 16, 0);
        one(1, 9, 4, 5, 17, 0);
        one(1, 0, 9, 1, 0, 0);
        EggDrop x = Check.withSchool("turn 0");
        x.layer(1, 0, 4, 10, 0);
        Check.due("21 is above 20", x.fall(4, 0, 0), 13);
    }

    private static void standing() {
        one(2, 2, 3, 4, 11, 0);
        one(2, 1, 3, 2, 1, 0);
        one(2, 1, 3, 3, 6, 1);
        one(2, 0, 1, 0, 0, 0);
        one(2, 0, 1, 1, 2, 1);
        one(2, 9, 9, 18, 63, 0);
        one(2, 9, 9, 19, 68, 1);
    }

    private static void hung() {
        one(3, 0, 1, 2, 5, 0);
        one(3, 0, 1, 3, 14, 0);
        one(3, 0, 2, 3, 8, 0);
        one(3, 0, 2, 4, 10, 0);
        one(3, 0, 9, 18, 45, 0);
        one(3, 0, 9, 19, 86, 0);
    }

    private static void loose() {
        one(4, 0, 4, 4, 16, 0);
        one(4, 0, 4, 5, 25, 0);
        one(4, 0, 4, 6, 22, 0);
        one(4, 0, 4, 2, 6, 0);
        one(4, 0, 4, 3, 15, 0);
    }

    private static void stiff() {
        one(5, 2, 3, 4, 9, 0);
        one(5, 1, 3, 2, 0, 0);
        one(5, 1, 3, 3, 6, 1);
        one(5, 9, 9, 18, 54, 0);
        one(5, 9, 9, 19, 68, 1);
    }

    private static void toldOnes() {
        one(6, 5, 1, 3, 14, 0);
        one(6, 5, 2, 4, 10, 0);
        EggDrop x = Check.withSchool("turn 0");
        x.layer(6, 0, 2, 0, 0);
        x.row(0, 0, 9);
        x.row(0, 1, 7);
        x.row(0, 2, 3);
        Check.due("TRY 0: 10 and 9", x.drop(4, 0), 1);
        Check.due("TRY 1: 10 and 7", x.drop(4, 0), 3);
        Check.due("TRY 2: 10 and 3", x.drop(4, 0), 7);
        Check.due("TRY 3: 0 at least", x.drop(2, 0), 0);
        x.broken(0, true);
        Check.due("a broken one takes nothing", x.drop(2, 0), 10);
    }

    private static void oneByOne() {
        EggDrop x = Check.withSchool("turn 0");
        x.layer(1, 0, 3, 0, 0);
        x.layer(1, 0, 3, 0, 0);
        x.layer(2, 1, 2, 0, 0);
        x.layer(3, 0, 1, 0, 0);
        x.layer(0, 0, 9, 0, 1);
        // 25 - 6 = 19, - 3 = 16, - 6 = 10 and broken, - 5 = 5; the bounce 12 - 9 = 3
        Check.due("by numbers", x.fall(5, 0, 0), 5);
        Check.due("the third is broken", x.fall(5, 0, 4), 4);
        x.broken(0, true);
        // 25 - 6 = 19, - 6 = 13 and broken, - 1 = 12
        Check.due("without the first", x.fall(5, 0, 0), 12);
        Check.due("both are broken", x.fall(5, 0, 4), 5);
        // the bounce of 26 on side 1 breaks what stands there
        x = Check.withSchool("turn 0");
        x.layer(2, 0, 9, 0, 3);
        x.layer(2, 1, 9, 10, 0);
        x.layer(2, 0, 9, 0, 1);
        Check.due("both landings break", x.fall(5, 3, 4), 3);
        Check.due("13 is above 10", x.fall(5, 3, 0), 0);
        Check.due("20 do not bounce", x.fall(3, 3, 4), 1);
        Check.due("nothing breaks in it", x.told(7), 0);
    }

    private static void cracks() {
        EggDrop x = new EggDrop();
        Check.due("twice 10 is not above 20", x.fall(2, 0, 3), 0);
        Check.due("twice 15 is", x.fall(3, 0, 3), 1);
        Check.due("20 is not above 20", x.fall(4, 0, 2), 1);
        Check.due("25 is", x.fall(5, 0, 2), 0);
        Check.due("no cracks by that which breaks", x.fall(5, 0, 3), 0);
        x.drop(3, 0);
        Check.due("17 are left: 15 holds", x.fall(3, 0, 2), 1);
        Check.due("17 are left: 20 not", x.fall(4, 0, 2), 0);
        Check.due("twice 10 is above 17", x.fall(2, 0, 3), 2);
        x.drop(2, 0);
        Check.due("14 are left: 10 holds", x.drop(2, 0), 10);
        Check.due("11 are left: 10 holds", x.drop(2, 0), 10);
        Check.due("8 are left: twice 5 is above", x.drop(1, 0), 5);
        Check.due("5 are left: 5 holds", x.drop(1, 0), 5);
        Check.due("cracks", x.told(3), 6);
        Check.due("2 are left: 5 breaks it", x.drop(1, 0), 5);
        Check.due("cracks stay", x.told(3), 6);
        Check.due("whole no more", x.told(4), 0);
        x = Check.withSchool("bear 2;wind 2 f=0");
        x.drop(0, 0);
        Check.due("a crack", x.told(3), 1);
        Check.schoolOf(x, "bear 2;wind 1 f=1");
        Check.due("0 at least: 0 holds", x.fall(0, 0, 2), 1);
        Check.due("0 at least: no crack by 0", x.fall(0, 0, 3), 1);
        Check.due("0 at least: 6 breaks", x.fall(1, 0, 2), 0);
    }

    private static void eggOfTwoLandings() {
        EggDrop x = Check.withSchool("turn 0;bear 45");
        // 40 cracks it, the bounce is 20, no more than 42, and not its half
        Check.due("one crack", x.fall(8, 0, 3), 1);
        Check.due("45 and 22: twice 22 is above 42", x.fall(9, 0, 3), 2);
        Check.due("45 and 22: whole", x.fall(9, 0, 2), 1);
        x.layer(0, 0, 9, 0, 0);
        x.layer(0, 0, 9, 0, 0);
        x.layer(0, 0, 9, 0, 0);
        // 80 - 27 = 53; 60 - 27 = 33 and 30: cracked by both; 95 - 27
        Check.due("33 and 30: two cracks", x.fall(12, 0, 3), 2);
        Check.due("53 breaks it", x.fall(16, 0, 2), 0);
        Check.schoolOf(x, "turn 0;bear 13");
        // 40 - 27 = 13 cracks it, 20 breaks it
        Check.due("the second landing breaks it", x.fall(8, 0, 2), 0);
        Check.due("with the crack of the first", x.fall(8, 0, 3), 1);
        Check.schoolOf(x, "turn 0;bear 20");
        // 13 cracks it, 20 is above 17
        Check.due("the crack counts at once", x.fall(8, 0, 2), 0);
        Check.due("its force", x.fall(8, 0, 0), 20);
        Check.schoolOf(x, "turn 0;bear 26");
        Check.due("13 is not above the half of 26; 20 holds", x.fall(8, 0, 2), 1);
        Check.due("and cracks it", x.fall(8, 0, 3), 1);
    }

    private static void brokenEgg() {
        EggDrop x = new EggDrop();
        x.layer(2, 0, 1, 0, 1);
        x.drop(3, 0);
        x.drop(20, 0);
        Check.due("broken", x.told(4), 0);
        Check.due("it is whole no more behind floor 0", x.fall(0, 0, 2), 0);
        Check.due("its cracks stay", x.fall(3, 0, 3), 1);
        Check.due("a fall has force still", x.fall(3, 0, 0), 15);
        x.broken(0, false);
        Check.due("layers break still", x.fall(1, 0, 4), 1);
    }

    private static void drops() {
        EggDrop x = new EggDrop();
        x.layer(2, 0, 3, 0, 1);
        Check.due("15 on side 3", x.drop(3, 0), 15);
        Check.due("TRY", x.told(0), 1);
        Check.due("cracks", x.told(3), 1);
        Check.due("nothing is broken", x.told(7), 0);
        Check.due("5 on side 1", x.drop(1, 0), 0);
        Check.due("it is broken", x.told(7), 1);
        Check.due("5 on side 1 again", x.drop(1, 0), 5);
        Check.due("TRY", x.told(0), 3);
        Check.due("breaks the egg", x.drop(20, 0), 100);
        Check.due("TRY", x.told(0), 4);
        Check.due("no fall of a broken egg", x.drop(0, 0), -3);
        Check.due("TRY stays", x.told(0), 4);
        x.egg();
        Check.due("a new one falls", x.drop(0, 0), 0);
    }

    private static void dropRefusals() {
        EggDrop x = new EggDrop();
        Check.due("drop(-1, 0)", x.drop(-1, 0), -1);
        Check.due("drop(21, 0)", x.drop(21, 0), -1);
        Check.due("drop(0, -1)", x.drop(0, -1), -1);
        Check.due("drop(0, 4)", x.drop(0, 4), -1);
        Check.due("TRY", x.told(0), 0);
        for (int i = 0; i < 9999; i++) {
            x.drop(0, 0);
        }
        Check.due("the latest TRY", x.told(0), 9999);
        Check.due("whole still", x.told(4), 1);
        Check.due("TRY is 9999", x.drop(0, 0), -3);
        Check.due("TRY is 9999, NONE", x.drop(21, 0), -1);
        x = new EggDrop();
        x.drop(20, 0);
        Check.due("NONE ahead of STATE", x.drop(21, 0), -1);
        Check.due("NONE ahead of STATE, side", x.drop(0, 4), -1);
        Check.due("STATE", x.drop(0, 0), -3);
    }

    private static void fallRefusals() {
        EggDrop x = new EggDrop();
        Check.due("fall(-1, 0, 0)", x.fall(-1, 0, 0), -1);
        Check.due("fall(21, 0, 0)", x.fall(21, 0, 0), -1);
        Check.due("fall(0, -1, 0)", x.fall(0, -1, 0), -1);
        Check.due("fall(0, 4, 0)", x.fall(0, 4, 0), -1);
        Check.due("fall(0, 0, -1)", x.fall(0, 0, -1), -1);
        Check.due("fall(0, 0, 5)", x.fall(0, 0, 5), -1);
        x.layer(2, 0, 1, 0, 0);
        String before = Check.all(x);
        for (int what = 0; what < 5; what++) {
            x.fall(20, 0, what);
        }
        Check.isTrue("a fall that is asked changes nothing", before.equals(Check.all(x)));
    }

    private static void highest() {
        EggDrop x = new EggDrop();
        Check.due("20 without layers", x.highest(0), 4);
        Check.due("highest(-1)", x.highest(-1), -1);
        Check.due("highest(4)", x.highest(4), -1);
        x.drop(3, 0);
        Check.due("17 are left", x.highest(0), 3);
        Check.schoolOf(x, "bear 2;wind 1 f=0");
        Check.due("none", x.highest(2), -5);
        Check.schoolOf(x, "bear 4");
        Check.due("floor 0 alone", x.highest(2), 0);
        // floors 0, 1 hold; 2 not; 3 would again
        x = Check.withSchool("turn 0;bear 20;wind 30 f=2");
        Check.due("each one below it too", x.highest(1), 1);
        x = Check.withSchool("turn 0;bear 99");
        x.layer(0, 0, 9, 0, 0);
        Check.due("of side 0, up to 20", x.highest(0), 20);
        Check.due("of side 1", x.highest(1), 19);
        x.drop(20, 1);
        Check.due("none for a broken egg", x.highest(0), -5);
    }

    private static void best() {
        EggDrop x = new EggDrop();
        Check.due("of several the least", x.best(2, 0), 0);
        Check.due("force", x.best(2, 1), 10);
        x.layer(0, 0, 3, 0, 1);
        x.layer(0, 0, 5, 0, 2);
        x.layer(0, 0, 5, 0, 0);
        Check.due("floor 2 turns twice", x.best(2, 0), 0);
        Check.due("least force", x.best(2, 1), 5);
        Check.due("floor 3 turns thrice", x.best(3, 0), 1);
        Check.due("least force", x.best(3, 1), 10);
        Check.due("floor 4, no bounce", x.best(4, 1), 15);
        // floor 5: 25 and 12: sides 0..3 give 20, 22, 20, 25
        Check.due("floor 5", x.best(5, 0), 1);
        Check.due("floor 5, force", x.best(5, 1), 20);
        Check.due("best(-1, 0)", x.best(-1, 0), -1);
        Check.due("best(21, 0)", x.best(21, 0), -1);
        Check.due("best(0, -1)", x.best(0, -1), -1);
        Check.due("best(0, 2)", x.best(0, 2), -1);
    }
}
