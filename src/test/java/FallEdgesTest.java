/** Terms 1, its last part: where a FALL lands, what BLOW is, what each KIND takes, when it bounces, cracks, breaks. */
public final class FallEdgesTest {
    public static void main(String[] args) {
        floors();
        landsModuloFour();
        fiveTimesFloor();
        allWinds();
        weightByTen();
        layersOfThatSide();
        brokenOnesTakeNothing();
        byNumbers();
        nothingIsLeftAtLeast();
        whatIsLeftAhead();
        layer();
        crumpled();
        standing();
        standingTakesStill();
        hung();
        loose();
        looseInTheBounce();
        stiff();
        told();
        toldModuloThree();
        bounces();
        nextSide();
        half();
        nothingElseIsAdded();
        windsOfTheFirstSide();
        greaterOfBoth();
        breaks();
        cracks();
        lessByCracks();
        zeroAtLeast();
        eachLandingInTurn();
        notWholeInTheSecond();
        brokenInBoth();
        Check.end();
    }

    /** An object by which a fall from floor 0 with side 0 below lands there with a BLOW of n (0 .. 198). */
    private static EggDrop blowing(int n, String more) {
        return Check.withSchool("turn 0;bear 99;wind " + n / 2 + " f=0;wind " + (n - n / 2) + " f=0" + more);
    }

    /** The force of one landing on side 0 with a LAYER there; what stands on side 1 takes all of a bounce. */
    private static void takes(int kind, int v, int thick, int blow, int taken, boolean breaks) {
        EggDrop x = blowing(blow, "");
        x.layer(kind, v, thick, 0, 0);
        for (int i = 0; i < 6; i++) {
            x.layer(0, 0, 9, 0, 1);
        }
        String call = "kind " + kind + ", v " + v + ", THICK " + thick + ", " + blow + " left";
        Check.due(call + ": FORCE", x.fall(0, 0, 0), blow - taken);
        Check.due(call + ": BROKEN", x.fall(0, 0, 4), breaks ? 1 : 0);
    }

    // ---- where it lands, and how hard

    private static void floors() {
        Check.sentence("a FLOOR f (0 .. 20)");
        EggDrop x = new EggDrop();
        Check.due("fall(0, 0, 0)", x.fall(0, 0, 0), 0);
        Check.due("fall(20, 0, 0)", x.fall(20, 0, 0), 100);
        Check.due("drop(0, 0)", x.drop(0, 0), 0);
        for (int floor : new int[] {-1, 21, Integer.MIN_VALUE, Integer.MAX_VALUE}) {
            Check.due("fall(" + floor + ", 0, 0)", x.fall(floor, 0, 0), -1);
            Check.due("drop(" + floor + ", 0)", x.drop(floor, 0), -1);
        }
        Check.due("TRY", x.told(0), 1);
        Check.due("drop(20, 0)", x.drop(20, 0), 100);
    }

    private static void landsModuloFour() {
        Check.sentence("it LANDS on the SIDE a and turn times f, together, modulo 4");
        for (int turn : new int[] {0, 1, 2, 3, 4, 5, 98, 99}) {
            EggDrop x = Check.withSchool("turn " + turn);
            for (int floor = 0; floor <= 20; floor++) {
                for (int side = 0; side < 4; side++) {
                    String call = "turn " + turn + ": fall(" + floor + ", " + side + ", 1)";
                    Check.due(call, x.fall(floor, side, 1), (side + turn * floor) % 4);
                }
            }
        }
    }

    private static void fiveTimesFloor() {
        Check.sentence("BLOW: 5 times f");
        EggDrop x = new EggDrop();
        for (int floor = 0; floor <= 20; floor++) {
            Check.due("fall(" + floor + ", 0, 0)", x.fall(floor, 0, 0), 5 * floor);
        }
    }

    private static void allWinds() {
        Check.sentence("BLOW: the n of all wind whose E holds");
        EggDrop x = Check.withSchool("wind 1 f=3;wind 0 f=3;price 90 f=3;wind 4 f=2;wind 8 f=3;turn 60;bear 70");
        Check.due("the first and the fourth", x.fall(3, 0, 0), 15 + 9);
        Check.due("the third alone", x.fall(2, 0, 0), 10 + 4);
        Check.due("none", x.fall(1, 0, 0), 5);
        x = Check.withSchool("wind 99 f=0;".repeat(7) + "wind 99 f=0");
        Check.due("eight of 99", x.fall(0, 0, 0), 8 * 99);
    }

    private static void weightByTen() {
        Check.sentence("BLOW: WEIGHT of all LAYERS by 10 (cut)");
        int[][] weights = {{9}, {10}, {19}, {9, 1}, {9, 9, 1}, {9, 9, 2}, {20, 20, 20, 20, 20, 20, 20, 19},
            {20, 20, 20, 20, 20, 20, 20, 20}};
        int[] due = {0, 1, 1, 1, 1, 2, 15, 16};
        for (int i = 0; i < due.length; i++) {
            EggDrop x = new EggDrop();
            for (int weight : weights[i]) {
                x.layer(0, 0, 1, weight, 3);
            }
            Check.due(weights[i].length + " layers", x.fall(0, 0, 0), due[i]);
            x.broken(0, true);
            Check.due("the broken one has its weight", x.fall(0, 0, 0), due[i]);
        }
    }

    // ---- through the LAYERS

    private static void layersOfThatSide() {
        Check.sentence("It goes through the LAYERS of that SIDE");
        for (int side = 0; side < 4; side++) {
            EggDrop x = Check.withSchool("turn 0");
            x.layer(0, 0, 3, 0, side);
            for (int below = 0; below < 4; below++) {
                Check.due("on " + side + ", lands on " + below, x.fall(2, below, 0), below == side ? 7 : 10);
            }
        }
    }

    private static void brokenOnesTakeNothing() {
        Check.sentence("that are not BROKEN");
        for (int kind = 0; kind <= 6; kind++) {
            EggDrop x = Check.withSchool("turn 0");
            x.layer(kind, 9, 3, 0, 0);
            x.broken(0, true);
            Check.due("a broken one of kind " + kind, x.fall(2, 0, 0), 10);
            Check.due("it stays so", x.fall(2, 0, 4), 1);
            x.broken(0, false);
            Check.due("a whole one takes", x.fall(2, 0, 0) < 10 ? 1 : 0, 1);
        }
    }

    private static void byNumbers() {
        Check.sentence("by numbers");
        // 22: LAYER 2, then CRUMPLED of 20: 5; the other way about 10 of 22, then 2
        EggDrop x = blowing(22, "");
        x.layer(0, 0, 2, 0, 0);
        x.layer(1, 0, 5, 0, 0);
        Check.due("LAYER, CRUMPLED", x.fall(0, 0, 0), 15);
        x = blowing(22, "");
        x.layer(1, 0, 5, 0, 0);
        x.layer(0, 0, 2, 0, 0);
        Check.due("CRUMPLED, LAYER: 10 is less than the bounce", x.fall(0, 0, 0), 11);
        x.layer(0, 0, 9, 0, 1);
        Check.due("CRUMPLED, LAYER", x.fall(0, 0, 0), 10);
        // one that came to the side later has its number still
        x = blowing(22, "");
        x.layer(0, 0, 2, 0, 3);
        x.layer(1, 0, 5, 0, 0);
        x.side(0, 0);
        Check.due("moved below", x.fall(0, 0, 0), 15);
    }

    private static void nothingIsLeftAtLeast() {
        Check.sentence("0 is left at least");
        takes(0, 0, 9, 9, 9, false);
        takes(0, 0, 9, 8, 8, false);
        takes(0, 0, 9, 0, 0, false);
        EggDrop x = blowing(3, "");
        x.layer(0, 0, 9, 0, 0);
        x.layer(2, 0, 1, 0, 0);
        x.layer(5, 0, 1, 0, 0);
        Check.due("what is behind has 0 of it", x.fall(0, 0, 0), 0);
        Check.due("which breaks nothing", x.fall(0, 0, 4), 0);
    }

    private static void whatIsLeftAhead() {
        Check.sentence("F being left ahead of it");
        int[] kinds = {1, 2, 3, 4, 5, 6};
        // ahead of it 5 are taken: of 25 20 are left, of 26 21; THICK 2, v 2; floor 0 is even
        int[] least = {20 - 2, 20 - 6, 20 - 10, 20 - 2, 20 - 8, 20 - 10};
        int[] above = {21 - 4, 21 - 6, 21 - 2, 21 - 4, 21 - 6, 21 - 2};
        for (int i = 0; i < kinds.length; i++) {
            for (int blow = 25; blow <= 26; blow++) {
                EggDrop x = blowing(blow, "");
                x.layer(0, 0, 5, 0, 0);
                x.layer(kinds[i], 2, 2, 0, 0);
                x.layer(0, 0, 9, 0, 1);
                boolean breaks = blow == 26 && (kinds[i] == 2 || kinds[i] == 5);
                Check.due("kind " + kinds[i] + " of " + blow, x.fall(0, 0, 0), blow == 25 ? least[i] : above[i]);
                Check.due("kind " + kinds[i] + " of " + blow + ", broken", x.fall(0, 0, 4), breaks ? 2 : 0);
            }
        }
    }

    // ---- TAKES of a LAYER

    private static void layer() {
        Check.sentence("LAYER: THICK");
        for (int thick = 1; thick <= 9; thick++) {
            takes(0, 9, thick, thick - 1, thick - 1, false);
            takes(0, 9, thick, thick + 1, thick, false);
            takes(0, 0, thick, 20, thick, false);
            takes(0, 0, thick, 21, thick, false);
            takes(0, 0, thick, 99, thick, false);
        }
    }

    private static void crumpled() {
        Check.sentence("CRUMPLED: twice THICK, if F is above 20, else THICK");
        for (int thick = 1; thick <= 9; thick++) {
            takes(1, 0, thick, 19, thick, false);
            takes(1, 0, thick, 20, thick, false);
            takes(1, 0, thick, 21, 2 * thick, false);
            takes(1, 9, thick, 99, 2 * thick, false);
        }
        takes(1, 0, 9, 8, 8, false);
    }

    private static void standing() {
        Check.sentence("STANDING: it is BROKEN then, if F is above 10 times v");
        for (int v = 0; v <= 9; v++) {
            takes(2, v, 1, 10 * v + 1, Math.min(3, 10 * v + 1), true);
            takes(2, v, 1, 10 * v, Math.min(3, 10 * v), false);
        }
        takes(2, 0, 9, 0, 0, false);
        takes(2, 9, 9, 0, 0, false);
    }

    private static void standingTakesStill() {
        Check.sentence("STANDING: 3 times THICK");
        for (int thick = 1; thick <= 9; thick++) {
            takes(2, 9, thick, 40, 3 * thick, false);
            takes(2, 0, thick, 40, 3 * thick, true);
            takes(2, 9, thick, 3 * thick, 3 * thick, false);
            takes(2, 9, thick, 3 * thick - 1, 3 * thick - 1, false);
            takes(2, 9, thick, 3 * thick + 1, 3 * thick, false);
        }
    }

    private static void hung() {
        Check.sentence("HUNG: the half of F (cut), if F is no more than 10 times THICK, else THICK");
        for (int kind : new int[] {3, 6}) {
            for (int thick = 1; thick <= 9; thick++) {
                takes(kind, 0, thick, 10 * thick - 1, 5 * thick - 1, false);
                takes(kind, 0, thick, 10 * thick, 5 * thick, false);
                takes(kind, 9, thick, 10 * thick + 1, thick, false);
            }
            takes(kind, 0, 1, 0, 0, false);
            takes(kind, 0, 1, 1, 0, false);
            takes(kind, 0, 1, 2, 1, false);
            takes(kind, 0, 1, 3, 1, false);
        }
    }

    private static void loose() {
        Check.sentence("LOOSE: as CRUMPLED, but nothing, if f is odd");
        takes(4, 0, 4, 20, 4, false);
        takes(4, 0, 4, 21, 8, false);
        for (int floor = 0; floor <= 20; floor++) {
            EggDrop x = Check.withSchool("turn 0");
            x.layer(4, 0, 3, 0, 0);
            for (int i = 0; i < 6; i++) {
                x.layer(0, 0, 9, 0, 1);
            }
            int blow = 5 * floor;
            int taken = floor % 2 == 1 ? 0 : blow > 20 ? 6 : Math.min(blow, 3);
            Check.due("floor " + floor, x.fall(floor, 0, 0), blow - taken);
        }
    }

    private static void looseInTheBounce() {
        Check.sentence("f as before");
        // floor 9: 45 bounces by 22; floor 10: 50 by 25, an odd half of an even floor
        for (int floor = 9; floor <= 10; floor++) {
            EggDrop x = Check.withSchool("turn 0;bear 99");
            for (int i = 0; i < 7; i++) {
                x.layer(0, 0, 9, 0, 0);
            }
            x.layer(4, 0, 2, 0, 1);
            Check.due("floor " + floor, x.fall(floor, 0, 0), floor == 9 ? 22 : 21);
        }
    }

    private static void stiff() {
        Check.sentence("STIFF: as STANDING, and v more, if it is not BROKEN by that");
        for (int v = 1; v <= 9; v++) {
            takes(5, v, 1, 10 * v, Math.min(3 + v, 10 * v), false);
            takes(5, v, 1, 10 * v + 1, 3, true);
        }
        takes(5, 0, 1, 0, 0, false);
        takes(5, 0, 1, 1, 1, true);
        takes(5, 9, 9, 36, 36, false);
        takes(5, 9, 9, 35, 35, false);
        takes(5, 9, 9, 37, 36, false);
    }

    private static EggDrop toldOne(int blow) {
        EggDrop x = blowing(blow, "");
        x.layer(6, 9, 2, 0, 0);
        x.layer(0, 0, 9, 0, 1);
        x.row(0, 0, 9);
        x.row(0, 1, 5);
        return x;
    }

    private static void told() {
        Check.sentence("TOLD: as HUNG, and its ROW more");
        Check.due("20: 10 and 9", toldOne(20).fall(0, 0, 0), 1);
        Check.due("21: 2 and 9", toldOne(21).fall(0, 0, 0), 10);
        Check.due("19: 9 and 9", toldOne(19).fall(0, 0, 0), 1);
        Check.due("18: 9 and 9", toldOne(18).fall(0, 0, 0), 0);
        Check.due("17: 0 is left at least", toldOne(17).fall(0, 0, 0), 0);
        Check.due("0", toldOne(0).fall(0, 0, 0), 0);
    }

    private static void toldModuloThree() {
        Check.sentence("its ROW at TRY modulo 3");
        EggDrop x = toldOne(20);
        int[] rows = {9, 5, 0};
        for (int i = 0; i <= 12; i++) {
            Check.due("asked at TRY " + i, x.fall(0, 0, 0), 10 - rows[i % 3]);
            Check.due("at TRY " + i, x.drop(0, 0), 10 - rows[i % 3]);
            x.egg();
        }
    }

    // ---- the bounce

    /** The force of the second landing alone: on side 0 all is taken. */
    private static int bounceOf(int blow, int below) {
        EggDrop x = blowing(blow, "");
        for (int i = 0; i < 8; i++) {
            x.layer(5, 9, 9, 0, below);
        }
        return x.fall(0, below, 0);
    }

    private static void bounces() {
        Check.sentence("If BLOW is above 20, it BOUNCES");
        Check.due("19", bounceOf(19, 0), 0);
        Check.due("20", bounceOf(20, 0), 0);
        Check.due("21", bounceOf(21, 0), 10);
        Check.due("what is left of it does not count", bounceOf(90, 0), 45);
        EggDrop x = new EggDrop();
        x.layer(2, 0, 1, 0, 1);
        Check.due("20 breaks nothing on the next side", x.fall(4, 0, 4), 0);
        Check.due("25 does", x.fall(5, 3, 4), 1);
    }

    private static void nextSide() {
        Check.sentence("on the next SIDE (behind 3: 0)");
        for (int side = 0; side < 4; side++) {
            for (int on = 0; on < 4; on++) {
                EggDrop x = blowing(40, "");
                x.layer(2, 0, 1, 0, on);
                boolean isMet = on == side || on == (side + 1) % 4;
                Check.due("from " + side + ", a layer on " + on, x.fall(0, side, 4), isMet ? 1 : 0);
            }
            Check.due("its force, from " + side, bounceOf(40, side), 20);
        }
    }

    private static void half() {
        Check.sentence("by the half (cut) of that BLOW");
        for (int blow = 21; blow <= 60; blow++) {
            Check.due("BLOW " + blow, bounceOf(blow, 2), blow / 2);
        }
    }

    private static void nothingElseIsAdded() {
        Check.sentence("(nothing else is added)");
        EggDrop x = Check.withSchool("turn 0;wind 21 s=0;wind 77 s=1");
        for (int i = 0; i < 7; i++) {
            x.layer(0, 0, 9, 0, 0);
        }
        x.layer(0, 0, 1, 20, 3);
        Check.due("the half of 23", x.fall(0, 0, 0), 11);
    }

    private static void windsOfTheFirstSide() {
        Check.sentence("s the SIDE on which it lands: of that BLOW, in the bounce too");
        EggDrop x = Check.withSchool("turn 0;wind 30 s=3;wind 50 s=0");
        Check.due("from side 3", x.fall(0, 3, 0), 30);
        for (int i = 0; i < 7; i++) {
            x.layer(0, 0, 9, 0, 3);
        }
        Check.due("the half of 30", x.fall(0, 3, 0), 15);
    }

    private static void greaterOfBoth() {
        Check.sentence("FORCE of the FALL: the greater one of both");
        int[] due = {42, 33, 24, 21, 21};
        EggDrop x = blowing(42, "");
        for (int i = 0; i < due.length; i++) {
            Check.due(i + " layers of 9 on the first side", x.fall(0, 0, 0), due[i]);
            x.layer(0, 0, 9, 0, 0);
        }
        x.layer(0, 0, 9, 0, 1);
        Check.due("one on the second", x.fall(0, 0, 0), 12);
        x.layer(0, 0, 9, 0, 1);
        x.layer(0, 0, 9, 0, 1);
        Check.due("three on the second", x.fall(0, 0, 0), 0);
    }

    // ---- THE EGG

    /** Whether the egg is whole, by hundreds, and its cracks, behind a fall by a BLOW with a bear. */
    private static int egg(int bear, int blow) {
        EggDrop x = Check.withSchool("turn 0;bear " + bear + ";wind " + blow + " f=0");
        int asked = 100 * x.fall(0, 0, 2) + x.fall(0, 0, 3);
        x.drop(0, 0);
        Check.due("bear " + bear + ", BLOW " + blow + ": dropped as asked", 100 * x.told(4) + x.told(3), asked);
        return asked;
    }

    private static void breaks() {
        Check.sentence("it is whole no more, if FORCE is above bear");
        for (int bear = 0; bear <= 19; bear++) {
            Check.due("bear " + bear + ", that much", egg(bear, bear) / 100, 1);
            Check.due("bear " + bear + ", one more", egg(bear, bear + 1) / 100, 0);
        }
        Check.due("bear 99, that much", egg(99, 99) / 100, 1);
        Check.due("bear 98, one more", egg(98, 99) / 100, 0);
    }

    private static void cracks() {
        Check.sentence("else CRACKS are 1 more, if twice FORCE is above that");
        Check.due("bear 0, 0", egg(0, 0), 100);
        Check.due("bear 1, 0", egg(1, 0), 100);
        Check.due("bear 1, 1", egg(1, 1), 101);
        for (int bear = 2; bear <= 20; bear++) {
            Check.due("bear " + bear + ", the half (cut)", egg(bear, bear / 2), 100);
            Check.due("bear " + bear + ", one more than the half", egg(bear, bear / 2 + 1), 101);
            Check.due("bear " + bear + ", that much", egg(bear, bear), 101);
        }
        Check.due("no crack comes to one that breaks", egg(9, 10), 0);
    }

    private static void lessByCracks() {
        Check.sentence("bear less 3 times CRACKS");
        for (int cracks = 1; cracks <= 4; cracks++) {
            Check.due(cracks + " cracks: whole", crackedThen(cracks, 20 - 3 * cracks) / 100, 1);
            Check.due(cracks + " cracks, one more", crackedThen(cracks, 21 - 3 * cracks) / 100, 0);
            int half = (20 - 3 * cracks) / 2;
            Check.due(cracks + " cracks, half", crackedThen(cracks, half), 100 + cracks);
            Check.due(cracks + " cracks, above half", crackedThen(cracks, half + 1), 101 + cracks);
        }
    }

    /** As egg(), of bear 20 and a BLOW at TRY 4 behind some cracks. */
    private static int crackedThen(int cracks, int blow) {
        StringBuilder text = new StringBuilder("turn 0;bear 20;wind " + blow + " y=4");
        for (int i = 0; i < cracks; i++) {
            text.append(";wind ").append(20 - 3 * i).append(" y=").append(i);
        }
        EggDrop x = Check.withSchool(text.toString());
        for (int i = 0; i < 4; i++) {
            x.drop(0, 0);
        }
        Check.due("cracks ahead", x.told(3), cracks);
        return 100 * x.fall(0, 0, 2) + x.fall(0, 0, 3);
    }

    private static void zeroAtLeast() {
        Check.sentence("bear less 3 times CRACKS (0 at least)");
        for (int bear = 0; bear <= 3; bear++) {
            EggDrop x = Check.withSchool("turn 0;bear 3;wind 3 y=0;wind 1 y=2");
            x.drop(0, 0);
            Check.schoolOf(x, "turn 0;wind 1 y=2;bear " + bear);
            Check.due("a crack", x.told(3), 1);
            Check.due("bear " + bear + ": 0 holds", x.fall(0, 0, 2), 1);
            Check.due("bear " + bear + ": 0 does not crack", x.fall(0, 0, 3), 1);
            x.drop(0, 0);
            Check.due("bear " + bear + ": 1 breaks", x.fall(0, 0, 2), 0);
        }
    }

    private static void eachLandingInTurn() {
        Check.sentence("At each LANDING, in turn");
        Check.due("45, 22: cracked, 42 are left: cracked", egg(45, 45), 102);
        Check.due("42, 21: cracked, 42 are left: not", egg(45, 42), 101);
        Check.due("22, 11: neither", egg(45, 22), 100);
        Check.due("23, 11: the first alone", egg(45, 23), 101);
        // 40: the first side takes 27, 13 are left; the second has 20
        int[] bears = {19, 20, 22, 23, 25, 26, 39, 40};
        int[] due = {1, 1, 1, 102, 102, 101, 101, 100};
        for (int i = 0; i < bears.length; i++) {
            EggDrop x = Check.withSchool("turn 0;bear " + bears[i] + ";wind 40 f=0");
            for (int k = 0; k < 3; k++) {
                x.layer(0, 0, 9, 0, 0);
            }
            Check.due("bear " + bears[i] + ", 13 and 20", 100 * x.fall(0, 0, 2) + x.fall(0, 0, 3), due[i]);
        }
    }

    private static void notWholeInTheSecond() {
        Check.sentence("if THE EGG is whole still");
        Check.due("it breaks at 44; 22 would crack it", egg(43, 44), 0);
        EggDrop x = Check.withSchool("turn 0;bear 20;wind 15 y=0;wind 30 y=1;wind 16 y=2");
        x.drop(0, 0);
        x.drop(0, 0);
        Check.due("whole no more", x.told(4), 0);
        Check.due("its cracks", x.told(3), 1);
        Check.due("asked: whole no more", x.fall(0, 0, 2), 0);
        Check.due("asked: its cracks stay", x.fall(0, 0, 3), 1);
        Check.due("by 16 a new one cracks once", x.egg(), -5);
        Check.due("at TRY 2", x.fall(0, 0, 3), 1);
    }

    private static void brokenInBoth() {
        Check.sentence("which LAYERS are BROKEN then");
        EggDrop x = blowing(22, "");
        x.layer(2, 2, 1, 0, 0);
        x.layer(5, 1, 1, 0, 1);
        x.layer(2, 1, 1, 0, 1);
        x.layer(2, 0, 1, 0, 2);
        x.layer(2, 0, 1, 0, 3);
        // 22 is above 20; 11 is above 10, less 3 not; the other sides are not met
        Check.due("both landings", x.fall(0, 0, 4), 3);
        x.broken(4, true);
        Check.due("and what was broken", x.fall(0, 0, 4), 19);
        Check.due("by a fall they are", x.drop(0, 0), 19);
        Check.due("told(7)", x.told(7), 19);
    }
}
