/** Promises 1 to 10. */
public final class SchoolsLayersEggsTest {
    public static void main(String[] args) {
        constants();
        newObject();
        feeding();
        goodSchools();
        faults();
        limitsOfASchool();
        longSchoolsInTurn();
        fullSchools();
        lastOfSeveral();
        layers();
        layerRefusals();
        ofLayer();
        prices();
        tests();
        joinedTests();
        sides();
        brokenOnes();
        rows();
        eggs();
        told();
        Check.end();
    }

    private static void constants() {
        Check.due("NONE", EggDrop.NONE, -1);
        Check.due("BAD", EggDrop.BAD, -2);
        Check.due("STATE", EggDrop.STATE, -3);
        Check.due("FULL", EggDrop.FULL, -4);
        Check.due("NO", EggDrop.NO, Long.MIN_VALUE);
    }

    private static void newObject() {
        EggDrop x = new EggDrop();
        for (int what = 0; what <= 5; what++) {
            Check.due("new: count(" + what + ")", x.count(what), 0);
        }
        int[] told = {0, 20, 1, 0, 1, 0, 0, 0};
        for (int what = 0; what < told.length; what++) {
            Check.due("new: told(" + what + ")", x.told(what), told[what]);
        }
        Check.due("new: of(0, 0)", x.of(0, 0), -1);
        Check.due("new: trace(0)", x.trace(0), -1);
        Check.due("new: undo()", x.undo(), -3);
        Check.due("new: looked()", x.looked(), -5);
        Check.due("new: fall(1, 0, 0)", x.fall(1, 0, 0), 5);
    }

    private static void feeding() {
        EggDrop x = new EggDrop();
        Check.due("feed(-1)", x.feed(-1), -2);
        Check.due("feed(128)", x.feed(128), -2);
        Check.due("feed(least)", x.feed(Integer.MIN_VALUE), -2);
        Check.due("feed(0)", x.feed(0), 1);
        Check.due("feed(127)", x.feed(127), 2);
        for (int i = 3; i <= 100; i++) {
            Check.due("feed to " + i, x.feed('b'), i);
        }
        Check.due("feed, full", x.feed('b'), -4);
        Check.due("feed, full and bad", x.feed(128), -2);
        Check.due("count(4), full", x.count(4), 100);
        Check.due("school of that", x.school(), -10);
        Check.due("count(4) behind a fault", x.count(4), 0);
        Check.due("feed after it", x.feed('b'), 1);
    }

    private static void goodSchools() {
        String[] good = {
            "bear 0", "bear 9", "bear 10", "bear 99", "turn 0", "turn 99",
            "wind 5 f=1", "price 5 k>0", "wind 0 t<99", "bear 5;turn 2;wind 1 s=3;price 2 y>7",
            "wind 1 f=1&s=1", "wind 1 f=1|s=1", "wind 1 f=1|s=1&y=2|t>3", "wind 1 !f=1", "wind 1 (f=1)",
            "wind 1 !!!!!f=1", "wind 1 (((((f=1)))))", "wind 1 !(!(!f=1))", "wind 1 !(f=1|s=2)&!y=3",
            "wind 1 !!!!!f=1&!!!!!s=1|(((((k=9)))))", "wind 1 (f=10|!s=20)&(t<30&k>40)",
        };
        for (String text : good) {
            EggDrop x = new EggDrop();
            Check.due("school of " + text, Check.schoolOf(x, text), 0);
            Check.due("count(4) behind " + text, x.count(4), 0);
            Check.due("count(1) behind " + text, x.count(1), 1);
        }
    }

    private static void faults() {
        Check.faulty("", 0);
        Check.faulty("x", 0);
        Check.faulty(" bear 1", 0);
        Check.faulty(";", 0);
        Check.faulty("B", 0);
        Check.faulty("bear", 4);
        Check.faulty("bear ", 5);
        Check.faulty("bear  1", 5);
        Check.faulty("bear1", 4);
        Check.faulty("beer 1", 2);
        Check.faulty("bear -1", 5);
        Check.faulty("bear 01", 6);
        Check.faulty("bear 00", 6);
        Check.faulty("bear 123", 7);
        Check.faulty("bear 1 ", 6);
        Check.faulty("bear 1 f=1", 6);
        Check.faulty("bear 1;", 7);
        Check.faulty("bear 1;;", 7);
        Check.faulty("bear 1; bear 2", 7);
        Check.faulty("bear 1,bear 2", 6);
        Check.faulty("turm 1", 3);
        Check.faulty("turn x", 5);
        Check.faulty("turn 1f", 6);
        Check.faulty("wind", 4);
        Check.faulty("wind 5", 6);
        Check.faulty("wind 5;", 6);
        Check.faulty("wind 5 ", 7);
        Check.faulty("wind 5  f=1", 7);
        Check.faulty("wind 123 f=1", 7);
        Check.faulty("wind 5 f", 8);
        Check.faulty("wind 5 f=", 9);
        Check.faulty("wind 5 f==1", 9);
        Check.faulty("wind 5 f!1", 8);
        Check.faulty("wind 5 g=1", 7);
        Check.faulty("wind 5 F=1", 7);
        Check.faulty("wind 5 f=01", 10);
        Check.faulty("wind 5 f=123", 11);
        Check.faulty("wind 5 f=1 ", 10);
        Check.faulty("wind 5 f=1&", 11);
        Check.faulty("wind 5 f=1&&s=1", 11);
        Check.faulty("wind 5 f=1||s=1", 11);
        Check.faulty("wind 5 f=1|", 11);
        Check.faulty("wind 5 |f=1", 7);
        Check.faulty("wind 5 ()", 8);
        Check.faulty("wind 5 (f=1", 11);
        Check.faulty("wind 5 (f=1;", 11);
        Check.faulty("wind 5 (f=1))", 12);
        Check.faulty("wind 5 f=1)", 10);
        Check.faulty("wind 5 !", 8);
        Check.faulty("wind 5 !)", 8);
        Check.faulty("wind 5 f=1!s=1", 10);
        Check.faulty("wind 5 f=1(s=1)", 10);
        Check.faulty("price 5", 7);
        Check.faulty("prise 5 f=1", 3);
        Check.faulty("price 5 f=1;wind", 16);
    }

    private static void limitsOfASchool() {
        Check.faulty("wind 1 !!!!!!f=1", 12);
        Check.faulty("wind 1 ((((((f=1))))))", 12);
        Check.faulty("wind 1 !(!(!(f=1", 12);
        Check.faulty("wind 1 (((((!f=1)))))", 12);
        Check.faulty("wind 1 ((((f=1&!!s=1))))", 16);
        String nine = "";
        for (int i = 1; i <= 9; i++) {
            nine += "bear " + i + ";";
        }
        EggDrop x = Check.withSchool(nine + "bear 44");
        Check.due("bear of ten", x.told(1), 44);
        Check.faulty(nine + "bear 9;", 69);
        Check.faulty(nine + "bear 9;turn 1", 69);
        Check.faulty(nine + "bear 9x", 69);
        String hundred = "wind 50 ";
        while (hundred.length() < 92) {
            hundred += "f=1|";
        }
        hundred += "s=0|s=10";
        Check.due("the size", hundred.length(), 100);
        x = Check.withSchool(hundred);
        Check.due("the wind of a hundred signs", x.fall(0, 0, 0), 50);
        Check.due("the wind of a hundred signs, side 1", x.fall(0, 1, 0), 0);
        Check.faulty(hundred.substring(0, 99) + "|", 100);
    }

    /** What one school or a fault has read is out of the way of the next one. */
    private static void longSchoolsInTurn() {
        EggDrop x = new EggDrop();
        for (int i = 0; i < 5; i++) {
            String text = "wind 1" + i + " ";
            while (text.length() < 89) {
                text += "f=9|";
            }
            Check.due("a fault", Check.schoolOf(x, text + "s=" + i + "|"), -10 - text.length() - 4);
            Check.due("a school", Check.schoolOf(x, text + "s=" + i), i);
            for (int side = 0; side < 4; side++) {
                Check.due("its wind on side " + side, x.fall(0, side, 0), side == i ? 10 + i : 0);
            }
        }
    }

    private static void fullSchools() {
        EggDrop x = new EggDrop();
        for (int i = 0; i < 5; i++) {
            Check.due("school " + i, Check.schoolOf(x, "bear " + i), i);
        }
        Check.feedAll(x, "bear 9");
        Check.due("a sixth", x.school(), -4);
        Check.due("its tape", x.count(4), 6);
        Check.feedAll(x, "x");
        Check.due("a sixth with a fault", x.school(), -4);
        Check.due("its tape", x.count(4), 7);
        Check.due("the fifth holds", x.told(1), 4);
        Check.due("five", x.count(1), 5);
    }

    private static void lastOfSeveral() {
        EggDrop x = Check.withSchool("bear 5;turn 3;bear 8;turn 2");
        Check.due("the last bear", x.told(1), 8);
        Check.due("the last turn", x.told(2), 2);
        Check.due("the newest holds", Check.schoolOf(x, "turn 4"), 1);
        Check.due("bear, none there", x.told(1), 20);
        Check.due("turn", x.told(2), 4);
        Check.due("a third", Check.schoolOf(x, "bear 0"), 2);
        Check.due("bear 0", x.told(1), 0);
        Check.due("turn, none there", x.told(2), 1);
        Check.due("a wind", Check.schoolOf(x, "bear 1;wind 9 f=0"), 3);
        Check.due("it blows", x.fall(0, 0, 0), 9);
        Check.due("no wind", Check.schoolOf(x, "bear 1"), 4);
        Check.due("none blows", x.fall(0, 0, 0), 0);
    }

    private static void layers() {
        EggDrop x = new EggDrop();
        for (int i = 0; i < 8; i++) {
            Check.due("layer " + i, x.layer(i % 7, 9 - i, i + 1, 20 - i, i % 4), i);
        }
        for (int i = 0; i < 8; i++) {
            Check.due("its kind", x.of(i, 0), i % 7);
            Check.due("its v", x.of(i, 1), 9 - i);
            Check.due("its thickness", x.of(i, 2), i + 1);
            Check.due("its weight", x.of(i, 3), 20 - i);
            Check.due("its side", x.of(i, 4), i % 4);
            Check.due("broken at first", x.of(i, 5), 0);
        }
        Check.due("a ninth", x.layer(0, 0, 1, 0, 0), -4);
        Check.due("a ninth of no kind", x.layer(7, 0, 1, 0, 0), -1);
        Check.due("a bad ninth", x.layer(0, 0, 0, 0, 0), -2);
        Check.due("eight", x.count(0), 8);
    }

    private static void layerRefusals() {
        EggDrop x = new EggDrop();
        Check.due("kind -1", x.layer(-1, 0, 1, 0, 0), -1);
        Check.due("kind 7", x.layer(7, 0, 1, 0, 0), -1);
        Check.due("side -1", x.layer(0, 0, 1, 0, -1), -1);
        Check.due("side 4", x.layer(0, 0, 1, 0, 4), -1);
        Check.due("side 4 ahead of v 10", x.layer(0, 10, 1, 0, 4), -1);
        Check.due("kind 7 ahead of thick 0", x.layer(7, 0, 0, 0, 0), -1);
        Check.due("v -1", x.layer(0, -1, 1, 0, 0), -2);
        Check.due("v 10", x.layer(0, 10, 1, 0, 0), -2);
        Check.due("thick 0", x.layer(0, 0, 0, 0, 0), -2);
        Check.due("thick 10", x.layer(0, 0, 10, 0, 0), -2);
        Check.due("weight -1", x.layer(0, 0, 1, -1, 0), -2);
        Check.due("weight 21", x.layer(0, 0, 1, 21, 0), -2);
        Check.due("none came", x.count(0), 0);
        Check.due("the greatest", x.layer(6, 9, 9, 20, 3), 0);
        Check.due("the least", x.layer(0, 0, 1, 0, 0), 1);
    }

    private static void ofLayer() {
        EggDrop x = new EggDrop();
        x.layer(5, 4, 3, 2, 1);
        Check.due("of(-1, 0)", x.of(-1, 0), -1);
        Check.due("of(1, 0)", x.of(1, 0), -1);
        Check.due("of(0, -1)", x.of(0, -1), -1);
        Check.due("of(0, 7)", x.of(0, 7), -1);
        Check.due("of(0, 6) without a school", x.of(0, 6), 0);
        Check.due("of(greatest, 0)", x.of(Integer.MAX_VALUE, 0), -1);
    }

    private static void prices() {
        EggDrop x = Check.withSchool("price 7 k=1;price 30 t>5;price 2 s=3&f=0;price 50 f>0;wind 9 f=0;price 1 y=1");
        x.layer(1, 0, 6, 5, 3);
        x.layer(0, 0, 9, 5, 0);
        x.layer(4, 0, 5, 5, 1);
        Check.due("7 and 30 and 2", x.of(0, 6), 39);
        Check.due("30", x.of(1, 6), 30);
        Check.due("nothing: LOOSE is not kind 1", x.of(2, 6), 0);
        Check.due("all", x.told(6), 69);
        x.side(0, 2);
        Check.due("on another side", x.of(0, 6), 37);
        x.drop(0, 0);
        Check.due("TRY 1", x.of(2, 6), 1);
        Check.due("all at TRY 1", x.told(6), 70);
        for (int i = 1; i < 11; i++) {
            Check.due("TRY " + i, x.of(2, 6), i == 1 ? 1 : 0);
            x.drop(0, 0);
            x.egg();
        }
        Check.due("TRY 11", x.of(2, 6), 1);
    }

    /** Each letter, each of < = >, on both sides of its number. */
    private static void tests() {
        String letters = "fskt";
        int[] is = {4, 2, 9, 3};
        for (int i = 0; i < letters.length(); i++) {
            for (int n = is[i] - 1; n <= is[i] + 1; n++) {
                wind(letters.charAt(i) + "<" + n, is[i] < n);
                wind(letters.charAt(i) + "=" + n, is[i] == n);
                wind(letters.charAt(i) + ">" + n, is[i] > n);
            }
        }
        EggDrop x = Check.withSchool("bear 99;wind 40 y=0;wind 50 y=9");
        for (int i = 0; i < 12; i++) {
            Check.due("wind at TRY " + i, x.drop(0, 0), i % 10 == 0 ? 40 : i % 10 == 9 ? 50 : 0);
            x.egg();
        }
    }

    /** A fall from floor 4 that lands on side 2 (turn 0), weight 39: 20 and 3, and the wind's 10; the bounce is less. */
    private static void wind(String condition, boolean blows) {
        EggDrop x = Check.withSchool("turn 0;wind 10 " + condition);
        x.layer(0, 0, 1, 20, 0);
        x.layer(0, 0, 1, 19, 0);
        Check.due("wind by " + condition, x.fall(4, 2, 0), blows ? 33 : 23);
    }

    private static void joinedTests() {
        wind("f=4&s=2", true);
        wind("f=4&s=1", false);
        wind("f=5&s=2", false);
        wind("f=5|s=2", true);
        wind("f=4|s=1", true);
        wind("f=5|s=1", false);
        wind("!f=4", false);
        wind("!f=5", true);
        wind("!!f=4", true);
        wind("f=4|s=1&k=0", true);
        wind("(f=4|s=1)&k=0", false);
        wind("k=0&s=1|f=4", true);
        wind("k=0&(s=1|f=4)", false);
        wind("f=4&(s=2)", true);
        wind("f=4&(s=1|s=2)", true);
        wind("k=0|(s=1|s=2)", true);
        wind("!f=5&s=1", false);
        wind("!(f=5&s=1)", true);
        wind("!(f=4|s=1)|t=3", true);
        wind("f=4&s=2&k=9&t=4|f=1|f=2", false);
        wind("f=1|f=2|f=4&s=2&k=9&t=3", true);
        wind("(f=1|(f=2|(f=3|(f=4|(f=5)))))", true);
        wind("(f=4&(s=2&(k=9&(t=3&(y=1)))))", false);
    }

    private static void sides() {
        EggDrop x = new EggDrop();
        x.layer(0, 0, 4, 0, 1);
        Check.due("side(0, 3)", x.side(0, 3), 1);
        Check.due("of(0, 4)", x.of(0, 4), 3);
        Check.due("side(0, 3) again", x.side(0, 3), 3);
        Check.due("side(0, 0)", x.side(0, 0), 3);
        Check.due("the fall meets it", x.fall(4, 0, 0), 16);
        Check.due("side(1, 0)", x.side(1, 0), -1);
        Check.due("side(-1, 0)", x.side(-1, 0), -1);
        Check.due("side(0, 4)", x.side(0, 4), -1);
        Check.due("side(0, -1)", x.side(0, -1), -1);
        Check.due("as it was", x.of(0, 4), 0);
    }

    private static void brokenOnes() {
        EggDrop x = new EggDrop();
        x.layer(0, 0, 4, 0, 0);
        x.layer(1, 0, 4, 7, 0);
        Check.due("broken(1, true)", x.broken(1, true), 0);
        Check.due("of(1, 5)", x.of(1, 5), 1);
        Check.due("of(0, 5)", x.of(0, 5), 0);
        Check.due("told(7)", x.told(7), 2);
        Check.due("the weight is as it was", x.told(5), 7);
        Check.due("it takes nothing", x.fall(4, 0, 0), 16);
        Check.due("broken(1, true) again", x.broken(1, true), 1);
        Check.due("broken(1, false)", x.broken(1, false), 1);
        Check.due("broken(1, false) again", x.broken(1, false), 0);
        Check.due("it takes", x.fall(4, 0, 0), 12);
        Check.due("broken(2, true)", x.broken(2, true), -1);
        Check.due("broken(-1, true)", x.broken(-1, true), -1);
        Check.due("told(7)", x.told(7), 0);
    }

    private static void rows() {
        EggDrop x = new EggDrop();
        x.layer(6, 0, 1, 0, 0);
        x.layer(3, 0, 1, 0, 1);
        Check.due("row(0, 0, 9)", x.row(0, 0, 9), 0);
        Check.due("row(0, 1, 4)", x.row(0, 1, 4), 0);
        Check.due("row(0, 2, 0)", x.row(0, 2, 0), 0);
        Check.due("row(0, 0, 8)", x.row(0, 0, 8), 9);
        Check.due("row(0, 1, 4)", x.row(0, 1, 4), 4);
        Check.due("row(0, -1, 0)", x.row(0, -1, 0), -1);
        Check.due("row(0, 3, 0)", x.row(0, 3, 0), -1);
        Check.due("row(2, 0, 0)", x.row(2, 0, 0), -1);
        Check.due("row(-1, 0, 0)", x.row(-1, 0, 0), -1);
        Check.due("row(0, 3, 10)", x.row(0, 3, 10), -1);
        Check.due("row(0, 0, 10)", x.row(0, 0, 10), -2);
        Check.due("row(0, 0, -1)", x.row(0, 0, -1), -2);
        Check.due("row(1, 0, 10)", x.row(1, 0, 10), -2);
        Check.due("row(1, 3, 0)", x.row(1, 3, 0), -1);
        Check.due("row(1, 0, 0)", x.row(1, 0, 0), -3);
        // 15 is more than 10 times 1: 1 of THICK, and the row's at TRY modulo 3
        x.side(0, 3);
        Check.due("TRY 0", x.drop(3, 0), 15 - 1 - 8);
        Check.due("TRY 1", x.drop(3, 0), 15 - 1 - 4);
        Check.due("TRY 2", x.drop(3, 0), 15 - 1);
        Check.due("TRY 3", x.fall(3, 0, 0), 15 - 1 - 8);
    }

    private static void eggs() {
        EggDrop x = new EggDrop();
        Check.due("egg() of a new one", x.egg(), 0);
        x.drop(3, 0);
        x.drop(0, 0);
        Check.due("cracks", x.told(3), 1);
        Check.due("egg()", x.egg(), 1);
        Check.due("no cracks", x.told(3), 0);
        Check.due("TRY goes on", x.told(0), 2);
        x.layer(2, 0, 1, 0, 0);
        Check.due("it breaks all", x.drop(8, 0), 37);
        Check.due("whole no more", x.told(4), 0);
        Check.due("egg() behind that", x.egg(), -5);
        Check.due("whole", x.told(4), 1);
        Check.due("the layer stays broken", x.told(7), 1);
    }

    private static void told() {
        EggDrop x = new EggDrop();
        Check.due("told(-1)", x.told(-1), -1);
        Check.due("told(8)", x.told(8), -1);
        x.layer(0, 0, 1, 20, 0);
        x.layer(0, 0, 1, 13, 1);
        x.layer(0, 0, 1, 2, 2);
        x.broken(0, true);
        x.broken(2, true);
        Check.due("weight of all", x.told(5), 35);
        Check.due("who is broken", x.told(7), 5);
        x.drop(2, 0);
        Check.due("TRY", x.told(0), 1);
    }
}
