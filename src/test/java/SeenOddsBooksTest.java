/** Promises 19 to 24. */
public final class SeenOddsBooksTest {
    public static void main(String[] args) {
        see();
        strong();
        strongFromNow();
        odds();
        mean();
        book();
        looked();
        Check.end();
    }

    private static void see() {
        EggDrop x = new EggDrop();
        Check.due("see(-1, ..) of none", x.see(-1, 0, true), 0);
        Check.due("see(-2, 0)", x.see(-2, 0, true), -1);
        Check.due("see(21, 0)", x.see(21, 0, true), -1);
        Check.due("see(0, -1)", x.see(0, -1, true), -1);
        Check.due("see(0, 4)", x.see(0, 4, true), -1);
        for (int i = 1; i <= 8; i++) {
            Check.due("see " + i, x.see(20, 3, true), i);
        }
        Check.due("a ninth", x.see(0, 0, true), -4);
        Check.due("NONE ahead of FULL", x.see(0, 4, true), -1);
        Check.due("eight", x.count(2), 8);
        Check.due("none then, whatever the side is", x.see(-1, 77, false), 0);
        Check.due("none", x.count(2), 0);
        Check.due("one again", x.see(0, 0, false), 1);
    }

    private static void strong() {
        EggDrop x = new EggDrop();
        Check.due("strong(-1)", x.strong(-1), -1);
        Check.due("strong(2)", x.strong(2), -1);
        Check.due("nothing seen: least", x.strong(0), 0);
        Check.due("nothing seen: greatest", x.strong(1), 99);
        x.see(4, 0, true);
        Check.due("20 held: least", x.strong(0), 20);
        Check.due("20 held: greatest", x.strong(1), 99);
        x.see(5, 0, false);
        Check.due("25 broke: greatest", x.strong(1), 24);
        Check.due("25 broke: least", x.strong(0), 20);
        x.see(2, 0, false);
        Check.due("10 broke: least", x.strong(0), -5);
        Check.due("10 broke: greatest", x.strong(1), -5);
        x.see(-1, 0, false);
        x.see(20, 0, false);
        Check.due("100 broke: greatest", x.strong(1), 99);
        x.see(20, 0, true);
        Check.due("100 held and broke", x.strong(0), -5);
        x.see(-1, 0, false);
        x.see(0, 0, false);
        Check.due("0 never breaks", x.strong(1), -5);
        // with both landings: 45 and 36 on bare sides need more than 45, as the first one cracks it
        x = Check.withSchool("turn 0");
        x.layer(0, 0, 9, 0, 0);
        x.layer(0, 0, 9, 0, 0);
        x.layer(0, 0, 9, 0, 0);
        x.see(12, 0, true);
        // 60 - 27 = 33, then 30: 33 is the least, as 33 - 3 is 30
        Check.due("33 and 30", x.strong(0), 33);
        x.see(-1, 0, true);
        x.see(10, 0, true);
        // 50 - 27 = 23, then 25: 25 cracks by 23 and bears 22 then; 28 it is
        Check.due("23 and 25", x.strong(0), 28);
        x.see(-1, 0, true);
        x.see(10, 0, false);
        Check.due("23 and 25, broken", x.strong(1), 27);
    }

    private static void strongFromNow() {
        EggDrop x = Check.withSchool("turn 0;bear 3");
        x.layer(2, 0, 2, 0, 0);
        x.see(4, 0, true);
        Check.due("the school's bear does not matter", x.strong(0), 14);
        x.see(4, 0, true);
        Check.due("each by itself", x.strong(0), 14);
        x.drop(1, 0);
        Check.due("the layer is broken now", x.strong(0), 20);
        Check.schoolOf(x, "turn 0;bear 20");
        x.drop(3, 1);
        Check.due("a crack", x.told(3), 1);
        Check.due("an egg without cracks", x.strong(0), 20);
        x.drop(20, 1);
        Check.due("whole no more", x.told(4), 0);
        Check.due("an egg that is whole", x.strong(0), 20);
        Check.due("and its greatest", x.strong(1), 99);
        Check.due("the egg is as it was", x.told(4), 0);
        x = Check.withSchool("turn 0;wind 7 y=0;wind 9 y=1");
        x.see(2, 0, true);
        Check.due("at TRY 0", x.strong(0), 17);
        x.drop(0, 0);
        Check.due("at TRY 1", x.strong(0), 19);
    }

    private static void odds() {
        EggDrop x = new EggDrop();
        Check.due("odds(2, 0)", x.odds(2, 0), 1);
        Check.due("odds(2, 1)", x.odds(2, 1), 1);
        // 15 .. 20 hold, 21 .. 24 not
        Check.due("odds(3, 0)", x.odds(3, 0), 3);
        Check.due("odds(3, 1)", x.odds(3, 1), 5);
        Check.due("odds(4, 0)", x.odds(4, 0), 1);
        Check.due("odds(4, 1)", x.odds(4, 1), 10);
        Check.due("odds(20, 0)", x.odds(20, 0), 0);
        Check.due("odds(20, 1)", x.odds(20, 1), 1);
        Check.due("odds(-1, 0)", x.odds(-1, 0), EggDrop.NO);
        Check.due("odds(21, 0)", x.odds(21, 0), EggDrop.NO);
        Check.due("odds(0, -1)", x.odds(0, -1), EggDrop.NO);
        Check.due("odds(0, 2)", x.odds(0, 2), EggDrop.NO);
        x.layer(0, 0, 2, 0, 0);
        // floor 4: 1 for sides 1, 2, 3 (20); side 0: 20 .. 22 less 2; above 20 the bounce of 10 .. on side 1:
        // 18 cracks it, bears 17 then, 10, 11 hold: 3 for side 0; 22 - 2 = 20
        Check.due("odds of a layer", x.odds(4, 0), 3);
        Check.due("odds of a layer, below", x.odds(4, 1), 20);
        for (int side = 1; side < 4; side++) {
            x = Check.withSchool("turn 0;bear 9");
            x.layer(0, 0, 9, 0, side);
            // 5 .. 14 hold up to 9 on three sides, all of them on the one: 25 of 40
            Check.due("odds of side " + side, x.odds(1, 0), 5);
            Check.due("odds of side " + side + ", below", x.odds(1, 1), 8);
        }
        x = Check.withSchool("turn 0;bear 0");
        for (int i = 0; i < 6; i++) {
            x.layer(0, 0, 9, 0, 1 + i % 3);
        }
        Check.due("three of four sides", x.odds(1, 0), 3);
        Check.due("three of four sides, below", x.odds(1, 1), 4);
        x = Check.withSchool("turn 0;bear 9");
        Check.due("0 .. 9 alone", x.odds(0, 0), 1);
        x.drop(20, 0);
        Check.due("none for a broken egg", x.odds(0, 0), 0);
        Check.due("none for a broken egg, below", x.odds(0, 1), 1);
    }

    private static void mean() {
        EggDrop x = new EggDrop();
        Check.due("mean(0, 0)", x.mean(0, 0), 0);
        Check.due("mean(0, 1)", x.mean(0, 1), 1);
        Check.due("mean(2, 0)", x.mean(2, 0), 10);
        Check.due("mean(2, 1)", x.mean(2, 1), 1);
        Check.due("mean(-1, 0)", x.mean(-1, 0), EggDrop.NO);
        Check.due("mean(21, 0)", x.mean(21, 0), EggDrop.NO);
        Check.due("mean(0, -1)", x.mean(0, -1), EggDrop.NO);
        Check.due("mean(0, 2)", x.mean(0, 2), EggDrop.NO);
        x.layer(0, 0, 3, 0, 0);
        Check.due("37 by 4", x.mean(2, 0), 37);
        Check.due("37 by 4, below", x.mean(2, 1), 4);
        x.layer(0, 0, 3, 0, 1);
        Check.due("34 by 4", x.mean(2, 0), 17);
        Check.due("34 by 4, below", x.mean(2, 1), 2);
        x.drop(20, 0);
        Check.due("of a broken egg too", x.mean(2, 0), 17);
    }

    private static void book() {
        EggDrop x = new EggDrop();
        Check.due("book(-1, ..) of none", x.book(-1, 9, -9), 0);
        Check.due("book(-2, 0, 0)", x.book(-2, 0, 0), -1);
        Check.due("book(21, 0, 0)", x.book(21, 0, 0), -1);
        Check.due("book(0, -1, 0)", x.book(0, -1, 0), -1);
        Check.due("book(0, 4, 0)", x.book(0, 4, 0), -1);
        Check.due("book(0, 0, -1)", x.book(0, 0, -1), -2);
        Check.due("book(0, 0, 10000)", x.book(0, 0, 10000), -2);
        Check.due("NONE ahead of BAD", x.book(0, 4, 10000), -1);
        for (int i = 1; i <= 8; i++) {
            Check.due("book " + i, x.book(20, 3, i == 1 ? 9999 : 0), i);
        }
        Check.due("a ninth", x.book(0, 0, 0), -4);
        Check.due("BAD ahead of FULL", x.book(0, 0, -1), -2);
        Check.due("NONE ahead of FULL", x.book(0, 4, 0), -1);
        Check.due("eight", x.count(3), 8);
        Check.due("none of SEEN", x.count(2), 0);
        Check.due("none then", x.book(-1, 4, 10000), 0);
        Check.due("none", x.count(3), 0);
        Check.due("looked at none", x.looked(), -5);
    }

    private static void looked() {
        EggDrop x = new EggDrop();
        x.book(3, 0, 15);
        x.book(4, 1, 20);
        x.book(0, 2, 0);
        Check.due("all are so", x.looked(), -5);
        x.book(5, 2, 24);
        Check.due("the fourth is not", x.looked(), 3);
        x.layer(0, 0, 2, 0, 1);
        Check.due("the second is not", x.looked(), 1);
        x.side(0, 3);
        Check.due("the first is not", x.looked(), 0);
        x.broken(0, true);
        x.drop(20, 0);
        Check.due("of a broken egg too", x.looked(), 3);
    }
}
