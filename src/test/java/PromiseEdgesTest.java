/** Promises 1 to 24, what their own sentences add to the terms: the first and the last answer, the empty and the full. */
public final class PromiseEdgesTest {
    public static void main(String[] args) {
        newObject();
        objectsAreTheirOwn();
        howManyItHas();
        tapeIsEmptyThen();
        ofWhats();
        sideItWas();
        brokenItWas();
        rowItWas();
        oldCracks();
        brokenOldEgg();
        toldWhats();
        toldOfFull();
        dropMakesIt();
        dropKeepsCracks();
        fallWhats();
        bestWhats();
        howManyOfSeen();
        Check.end();
    }

    private static void newObject() {
        Check.sentence("EggDrop(): No LAYERS, no SCHOOL, a new EGG");
        EggDrop x = new EggDrop();
        int[] told = {0, 20, 1, 0, 1, 0, 0, 0, -1};
        for (int what = 0; what < told.length; what++) {
            Check.due("told(" + what + ")", x.told(what), told[what]);
        }
        for (int what = 0; what <= 5; what++) {
            Check.due("count(" + what + ")", x.count(what), 0);
        }
        Check.due("undo()", x.undo(), -3);
        Check.due("trace(0)", x.trace(0), -1);
        Check.due("school()", x.school(), -10);
        Check.due("egg()", x.egg(), 0);
    }

    private static void objectsAreTheirOwn() {
        Check.sentence("EggDrop(): whatever another one is like");
        String before = Check.all(new EggDrop());
        EggDrop other = Twin.fullWithImage();
        Check.isTrue("a new one", before.equals(Check.all(new EggDrop())));
        Check.due("undo() of a new one", new EggDrop().undo(), -3);
        Check.due("the other one", other.count(0), 8);
    }

    private static void howManyItHas() {
        Check.sentence("A sign comes behind THE TAPE's: how many it has");
        EggDrop x = new EggDrop();
        String text = "bear 1;bear 23";
        for (int i = 0; i < text.length(); i++) {
            Check.due("feed", x.feed(text.charAt(i)), i + 1);
            Check.due("count(4)", x.count(4), i + 1);
        }
        Check.due("the signs are in their order", x.school(), 0);
        Check.due("bear", x.told(1), 23);
    }

    private static void tapeIsEmptyThen() {
        Check.sentence("THE TAPE, which is empty then (by a FAULT, too)");
        EggDrop x = new EggDrop();
        Check.due("a school", Check.schoolOf(x, "bear 7"), 0);
        Check.due("count(4)", x.count(4), 0);
        Check.due("school() at once", x.school(), -10);
        Check.due("a fault", Check.schoolOf(x, "bear 7x"), -16);
        Check.due("count(4)", x.count(4), 0);
        Check.due("school() at once", x.school(), -10);
        Check.due("the first sign", x.feed('b'), 1);
        Check.due("its fault", x.school(), -11);
        Check.due("bear", x.told(1), 7);
    }

    private static void ofWhats() {
        Check.sentence("Of a LAYER what 0 KIND .. 6 its price");
        EggDrop x = Check.withSchool("price 99 k=6;price 99 t=9");
        x.layer(6, 9, 9, 20, 3);
        x.broken(0, true);
        x.layer(0, 0, 1, 0, 0);
        int[] greatest = {6, 9, 9, 20, 3, 1, 198, -1};
        int[] least = {0, 0, 1, 0, 0, 0, 0, -1};
        for (int what = 0; what <= 7; what++) {
            Check.due("of(0, " + what + ")", x.of(0, what), greatest[what]);
            Check.due("of(1, " + what + ")", x.of(1, what), least[what]);
        }
        Check.due("of(0, -1)", x.of(0, -1), -1);
    }

    private static void sideItWas() {
        Check.sentence("A LAYER is on a SIDE: on which it was");
        EggDrop x = new EggDrop();
        x.layer(0, 0, 1, 0, 3);
        x.layer(0, 0, 1, 0, 1);
        int was = 3;
        for (int side : new int[] {3, 3, 0, 0, 2, 1, 3, 0}) {
            Check.due("side(0, " + side + ")", x.side(0, side), was);
            Check.due("of(0, 4)", x.of(0, 4), side);
            Check.due("the other one", x.of(1, 4), 1);
            was = side;
        }
    }

    private static void brokenItWas() {
        Check.sentence("A LAYER is BROKEN, or not: whether it was");
        EggDrop x = new EggDrop();
        for (int i = 0; i < 8; i++) {
            x.layer(i % 7, 0, 1, 0, 0);
        }
        for (int i = 0; i < 8; i++) {
            int was = 0;
            for (boolean is : new boolean[] {false, true, true, false, false, true}) {
                Check.due("broken(" + i + ", " + is + ")", x.broken(i, is), was);
                Check.due("told(7)", x.told(7), (1 << i) - 1 + (is ? 1 << i : 0));
                was = is ? 1 : 0;
            }
        }
    }

    private static void rowItWas() {
        Check.sentence("The ROW becomes n for TRIES modulo 3 being k: what it was");
        EggDrop x = Check.withSchool("turn 0;bear 99;wind 20 f=0");
        x.layer(6, 0, 1, 0, 0);
        Check.due("row(0, 1, 9)", x.row(0, 1, 9), 0);
        int[] due = {19, 10, 19, 19, 10, 19, 19};
        for (int i = 0; i < due.length; i++) {
            Check.due("at TRY " + i, x.drop(0, 0), due[i]);
        }
        Check.due("row(0, 1, 0)", x.row(0, 1, 0), 9);
        Check.due("row(0, 1, 3)", x.row(0, 1, 3), 0);
        Check.due("row(0, 0, 0)", x.row(0, 0, 0), 0);
        Check.due("row(0, 2, 0)", x.row(0, 2, 0), 0);
    }

    private static void oldCracks() {
        Check.sentence("A new EGG, without CRACKS: CRACKS of the old one");
        EggDrop x = new EggDrop();
        Check.due("of a new one", x.egg(), 0);
        for (int cracks = 1; cracks <= 3; cracks++) {
            for (int i = 0; i < cracks; i++) {
                x.drop(i == 0 ? 3 : 2, 0);
            }
            Check.due("told(3)", x.told(3), cracks);
            Check.due("egg()", x.egg(), cracks);
            Check.due("told(3) then", x.told(3), 0);
            Check.due("told(4) then", x.told(4), 1);
        }
        Check.due("TRY goes on", x.told(0), 6);
    }

    private static void brokenOldEgg() {
        Check.sentence("egg (-5: it was whole no more)");
        EggDrop x = new EggDrop();
        x.drop(20, 0);
        Check.due("without CRACKS", x.egg(), -5);
        Check.due("the new one", x.egg(), 0);
        x.drop(3, 0);
        x.drop(20, 0);
        Check.due("with a crack", x.egg(), -5);
        Check.due("the new one has none", x.told(3), 0);
        Check.due("it is whole", x.told(4), 1);
        Check.due("egg()", x.egg(), 0);
    }

    private static void toldWhats() {
        Check.sentence("What 0 TRY .. 7 who is BROKEN (bits)");
        EggDrop x = Check.withSchool("bear 30;turn 2;price 11 k<9");
        x.layer(0, 0, 1, 13, 3);
        x.layer(0, 0, 1, 14, 3);
        x.broken(1, true);
        x.drop(4, 0);
        int[] due = {1, 30, 2, 1, 1, 27, 22, 2};
        for (int what = 0; what < due.length; what++) {
            Check.due("told(" + what + ")", x.told(what), due[what]);
        }
    }

    private static void toldOfFull() {
        Check.sentence("told: WEIGHT of all, prices of all, who is BROKEN, of eight");
        EggDrop x = Check.withSchool("price 99 f=0;price 99 f=0;price 99 f=0");
        for (int i = 0; i < 8; i++) {
            x.layer(0, 0, 1, 20, 0);
            x.broken(i, true);
        }
        Check.due("told(5)", x.told(5), 160);
        Check.due("told(6)", x.told(6), 8 * 297);
        Check.due("told(7)", x.told(7), 255);
    }

    private static void dropMakesIt() {
        Check.sentence("A FALL: FORCE; TRY is 1 more, what is BROKEN is, CRACKS come");
        EggDrop x = Check.withSchool("turn 0;bear 45");
        x.layer(2, 1, 2, 0, 0);
        x.layer(2, 0, 1, 0, 1);
        // 45 - 6 = 39 cracks it; 22 - 3 = 19 is not above the half of 42
        Check.due("drop(9, 0)", x.drop(9, 0), 39);
        Check.due("TRY", x.told(0), 1);
        Check.due("BROKEN", x.told(7), 3);
        Check.due("CRACKS", x.told(3), 1);
        Check.due("whole", x.told(4), 1);
        Check.due("drop(9, 0): 45 is above 42", x.drop(9, 0), 45);
        Check.due("TRY", x.told(0), 2);
        Check.due("CRACKS", x.told(3), 1);
        Check.due("whole no more", x.told(4), 0);
        Check.due("drop(0, 0)", x.drop(0, 0), -3);
        Check.due("TRY", x.told(0), 2);
    }

    private static void dropKeepsCracks() {
        Check.sentence("CRACKS come: two by one FALL");
        EggDrop x = Check.withSchool("turn 0;bear 45");
        Check.due("45 and 22 of 42", x.drop(9, 0), 45);
        Check.due("CRACKS", x.told(3), 2);
        Check.due("egg()", x.egg(), 2);
    }

    private static void fallWhats() {
        Check.sentence("FALL: what 0 FORCE, 1 SIDE, 2 whether whole, 3 CRACKS, 4 BROKEN (bits)");
        EggDrop x = Check.withSchool("turn 3;bear 30");
        x.layer(2, 0, 1, 0, 3);
        x.layer(0, 0, 5, 0, 2);
        x.broken(1, true);
        // floor 5: 25 on side 1 + 15 = 16 = 0; the bounce on side 1
        int[] due = {25, 0, 1, 1, 2};
        // floor 6: 30 on side 1 + 18 = 19 = 3: 27 cracks it; 15 on side 0: 30 is above 27
        int[] two = {27, 3, 1, 2, 3};
        // floor 7: 35 on side 1 + 21 = 22 = 2 breaks it
        int[] broken = {35, 2, 0, 0, 3};
        for (int what = 0; what < 5; what++) {
            Check.due("fall(5, 1, " + what + ")", x.fall(5, 1, what), due[what]);
            Check.due("fall(6, 1, " + what + ")", x.fall(6, 1, what), two[what]);
            Check.due("fall(7, 1, " + what + ")", x.fall(7, 1, what), broken[what]);
        }
        Check.due("fall(5, 1, 5)", x.fall(5, 1, 5), -1);
        Check.due("fall(5, 1, -1)", x.fall(5, 1, -1), -1);
    }

    private static void bestWhats() {
        Check.sentence("BEST: what 0 the SIDE, 1 FORCE");
        EggDrop x = Check.withSchool("turn 0");
        for (int i = 0; i < 8; i++) {
            x.layer(0, 0, 9, 0, 3);
        }
        Check.due("best(4, 0)", x.best(4, 0), 3);
        Check.due("best(4, 1)", x.best(4, 1), 0);
        Check.due("best(0, 0)", x.best(0, 0), 0);
        Check.due("best(0, 1)", x.best(0, 1), 0);
        Check.due("best(20, 0)", x.best(20, 0), 3);
        Check.due("best(20, 1): of the bounce", x.best(20, 1), 50);
    }

    private static void howManyOfSeen() {
        Check.sentence("What was SEEN comes, a row comes to BOOK: how many there are");
        EggDrop x = new EggDrop();
        for (int i = 1; i <= 8; i++) {
            Check.due("see", x.see(20, 3, i % 2 == 0), i);
            Check.due("book", x.book(20, 3, 0), i);
        }
        Check.due("see(-1, ..)", x.see(-1, 3, true), 0);
        Check.due("count(3)", x.count(3), 8);
        Check.due("book(-1, ..)", x.book(-1, 3, 0), 0);
        Check.due("see", x.see(0, 0, true), 1);
        Check.due("book", x.book(0, 0, 0), 1);
        Check.due("see", x.see(0, 0, true), 2);
        Check.due("count(2)", x.count(2), 2);
        Check.due("count(3)", x.count(3), 1);
    }
}
