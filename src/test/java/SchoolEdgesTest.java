import java.util.TreeSet;

/** Terms 1, its second part: what THE TAPE and a SCHOOL may hold, where a FAULT lies, what a TEST compares. */
public final class SchoolEdgesTest {
    /** All that a number may stand behind, and what must come behind it. */
    private static final String[][] NUMBERS = {
        {"bear ", ""}, {"turn ", ""}, {"wind ", " f=1"}, {"price ", " f=1"}, {"wind 1 f<", ""}, {"wind 1 s=", ""},
        {"wind 1 k>", ""}, {"price 1 t=", ""}, {"price 1 y<", ""}, {"bear 1;wind 22 (!s>", ")"},
    };

    public static void main(String[] args) {
        hundredSigns();
        schoolOfHundredSigns();
        bytes();
        tenClauses();
        noClause();
        semicolonsBetween();
        oneBlank();
        oneOrTwoDigits();
        noZeroAhead();
        words();
        parts();
        andAheadOfOr();
        letters();
        signs();
        compares();
        fiveOpen();
        openTillItsClose();
        openTillItsPartEnds();
        firstByte();
        endsTooEarly();
        everyByte();
        Check.end();
    }

    // ---- THE TAPE

    private static void hundredSigns() {
        Check.sentence("THE TAPE (bytes, 100 at most)");
        EggDrop x = new EggDrop();
        Check.due("an empty one", x.count(4), 0);
        for (int i = 1; i <= 100; i++) {
            Check.due("feed " + i, x.feed('f'), i);
        }
        Check.due("feed 101", x.feed('f'), -4);
        Check.due("its signs", x.count(4), 100);
    }

    private static void schoolOfHundredSigns() {
        Check.sentence("100 at most: all of them are read, the one too many is not");
        String text = "wind 40 s=10|" + "s=1|".repeat(21) + "s=0";
        Check.due("the size", text.length(), 100);
        EggDrop x = new EggDrop();
        Check.feedAll(x, text);
        Check.due("feed 101", x.feed('|'), -4);
        Check.due("school()", x.school(), 0);
        Check.due("its wind on side 0", x.fall(0, 0, 0), 40);
        Check.due("its wind on side 2", x.fall(0, 2, 0), 0);
        Check.due("one sign behind it", x.feed('b'), 1);
        Check.faulty(text.substring(0, 99) + "|", 99);
    }

    private static void bytes() {
        Check.sentence("bytes: a sign (0 .. 127)");
        for (int sign = 0; sign <= 127; sign++) {
            EggDrop x = new EggDrop();
            Check.due("feed(" + sign + ")", x.feed(sign), 1);
            boolean isWordsFirst = "btwp".indexOf(sign) >= 0;
            Check.due("the school of sign " + sign, x.school(), isWordsFirst ? -11 : -10);
        }
        EggDrop x = new EggDrop();
        for (int sign : new int[] {-1, 128, 255, 256 + 'b', Integer.MIN_VALUE, Integer.MAX_VALUE}) {
            Check.due("feed(" + sign + ")", x.feed(sign), -2);
            Check.due("signs", x.count(4), 0);
        }
    }

    // ---- CLAUSES

    private static String repeated(String clause, int n) {
        return (clause + ";").repeat(n - 1) + clause;
    }

    private static void tenClauses() {
        Check.sentence("CLAUSES, 10 at most");
        EggDrop x = Check.withSchool(repeated("turn 1", 9) + ";bear 33");
        Check.due("the tenth is taken", x.told(1), 33);
        x = Check.withSchool("bear 33;" + repeated("turn 3", 9));
        Check.due("the first is", x.told(1), 33);
        Check.withSchool(repeated("bear 1", 9));
        Check.faulty(repeated("bear 1", 11), 69);
        Check.faulty(repeated("bear 1", 10) + ";", 69);
        Check.faulty(repeated("bear 1", 10) + ";x", 69);
        x = Check.withSchool(repeated("wind 2 f=0", 9));
        Check.due("nine winds, 98 signs", x.fall(0, 0, 0), 18);
    }

    private static void noClause() {
        Check.sentence("CLAUSES: an empty text is none");
        Check.faulty("", 0);
    }

    private static void semicolonsBetween() {
        Check.sentence("with ; between");
        Check.withSchool("bear 1;turn 2");
        Check.faulty(";bear 1", 0);
        Check.faulty("bear 1;", 7);
        Check.faulty("bear 1;;turn 2", 7);
        Check.faulty("bear 1turn 2", 6);
        Check.faulty("bear 1,turn 2", 6);
        Check.faulty("bear 1; turn 2", 7);
        Check.faulty("wind 1 f=1turn 2", 10);
    }

    private static void oneBlank() {
        Check.sentence("one blank ahead of each part behind the word");
        Check.faulty(" bear 1", 0);
        Check.faulty("bear1", 4);
        Check.faulty("bear  1", 5);
        Check.faulty("bear 1 ", 6);
        Check.faulty("turn1", 4);
        Check.faulty("turn  1", 5);
        Check.faulty("turn 1 ", 6);
        Check.faulty("wind1 f=1", 4);
        Check.faulty("wind  1 f=1", 5);
        Check.faulty("wind 1f=1", 6);
        Check.faulty("wind 1  f=1", 7);
        Check.faulty("wind 1 f =1", 8);
        Check.faulty("wind 1 f= 1", 9);
        Check.faulty("wind 1 f=1 ", 10);
        Check.faulty("price1 f=1", 5);
        Check.faulty("price  1 f=1", 6);
        Check.faulty("price 1f=1", 7);
        Check.faulty("price 1  f=1", 8);
        Check.faulty("price 1 ! f=1", 9);
        Check.faulty("price 1 ( f=1)", 9);
    }

    private static void oneOrTwoDigits() {
        Check.sentence("n 1 or 2 digits");
        for (String[] around : NUMBERS) {
            int at = around[0].length();
            for (int n = 0; n <= 99; n++) {
                Check.withSchool(around[0] + n + around[1]);
            }
            Check.faulty(around[0], at);
            Check.faulty(around[0] + around[1], at);
            Check.faulty(around[0] + "-1" + around[1], at);
            Check.faulty(around[0] + "/" + around[1], at);
            Check.faulty(around[0] + ":" + around[1], at);
            Check.faulty(around[0] + "1/" + around[1], at + 1);
            Check.faulty(around[0] + "1:" + around[1], at + 1);
            Check.faulty(around[0] + "100" + around[1], at + 2);
            Check.faulty(around[0] + "999" + around[1], at + 2);
        }
    }

    private static void noZeroAhead() {
        Check.sentence("no 0 ahead of another");
        for (String[] around : NUMBERS) {
            for (int n = 0; n <= 9; n++) {
                Check.faulty(around[0] + "0" + n + around[1], around[0].length() + 1);
            }
        }
    }

    private static void words() {
        Check.sentence("bear n; turn n; wind n E; price n E");
        for (String word : new String[] {"bear", "turn", "wind", "price"}) {
            for (int i = 0; i < word.length(); i++) {
                Check.faulty(word.substring(0, i), i);
                Check.faulty(word.substring(0, i) + "_" + word.substring(i) + " 1", i);
            }
            Check.faulty(word, word.length());
            Check.faulty(word + "s 1", word.length());
            Check.faulty(word.toUpperCase() + " 1", 0);
        }
        Check.faulty("bear 1 f=1", 6);
        Check.faulty("turn 1 f=1", 6);
        Check.faulty("wind 1;bear 1", 6);
        Check.faulty("price 1;bear 1", 7);
    }

    // ---- conditions

    private static void parts() {
        Check.sentence("E: T, or T|E. T: F, or F&T. F: !F, (E), or a TEST");
        for (String good : new String[] {"f=1", "f=1|s=1|k=1", "f=1&s=1&k=1", "!f=1", "!!f=1", "(f=1)", "((f=1))",
            "(f=1|s=1)&k=1", "!(f=1&s=1)|!k=1", "f=1&(s=1)", "f=1|!s=1"}) {
            Check.withSchool("wind 1 " + good);
            Check.withSchool("price 1 " + good);
        }
        String[] bad = {"|f=1", "&f=1", ")f=1", "=f=1", "f=1||f=1", "f=1&&f=1", "f=1|&f=1", "f=1&|f=1", "f=1|;", "f=1&;",
            "f=1!f=1", "f=1(f=1)", "f=1f=1", "f=1)", "()", "(|f=1)", "(f=1;f=1)", "(f=1(", "!;", "!|f=1", "!&f=1",
            "!)", "(f=1)f=1", "(f=1)(f=1)", "(f=1)!f=1", "(!)", "(f=1|)", "(f=1&)"};
        int[] faults = {0, 0, 0, 0, 4, 4, 4, 4, 4, 4, 3, 3, 3, 3, 1, 1, 4, 4, 1, 1, 1, 1, 5, 5, 5, 2, 5, 5};
        for (int i = 0; i < bad.length; i++) {
            Check.faulty("wind 1 " + bad[i], 7 + faults[i]);
            Check.faulty("price 1 " + bad[i], 8 + faults[i]);
        }
    }

    /** A wind of 9 that blows or not at a fall from floor 0 on side 0, TRY 0, without weight: k alone is not 0. */
    private static void blows(String condition, boolean is) {
        Check.due(condition, Check.withSchool("wind 9 " + condition).fall(0, 0, 0), is ? 9 : 0);
    }

    private static void andAheadOfOr() {
        Check.sentence("T|E, F&T, !F: what binds what");
        String yes = "f=0";
        String no = "f=1";
        blows(yes + "|" + no + "&" + no, true);
        blows("(" + yes + "|" + no + ")&" + no, false);
        blows(no + "&" + no + "|" + yes, true);
        blows(no + "&(" + no + "|" + yes + ")", false);
        blows("!" + no + "|" + yes, true);
        blows("!(" + no + "|" + yes + ")", false);
        blows("!" + yes + "&" + no, false);
        blows("!(" + yes + "&" + no + ")", true);
        blows("!!" + yes, true);
        blows("!" + yes, false);
        for (int bits = 0; bits < 8; bits++) {
            boolean a = (bits & 1) == 1;
            boolean b = (bits & 2) == 2;
            boolean c = (bits & 4) == 4;
            String p = a ? yes : no;
            String q = b ? yes : no;
            String r = c ? yes : no;
            blows(p + "|" + q + "|" + r, a || b || c);
            blows(p + "&" + q + "&" + r, a && b && c);
            blows(p + "&" + q + "|" + r, a && b || c);
            blows(p + "|" + q + "&" + r, a || b && c);
            blows("!" + p + "&!(" + q + "|!" + r + ")", !a && !(b || !c));
        }
    }

    private static void letters() {
        Check.sentence("a TEST: f or s or k or t or y");
        for (char letter = 1; letter < 128; letter++) {
            if ("fskty".indexOf(letter) >= 0) {
                Check.withSchool("wind 1 " + letter + "=1");
            } else if ("!(".indexOf(letter) < 0) {
                Check.faulty("wind 1 " + letter + "=1", 7);
            }
        }
    }

    private static void signs() {
        Check.sentence("a TEST: one of < = >");
        for (char sign = 1; sign < 128; sign++) {
            if ("<=>".indexOf(sign) >= 0) {
                Check.withSchool("price 1 y" + sign + "1");
            } else {
                Check.faulty("price 1 y" + sign + "1", 9);
            }
        }
        Check.faulty("price 1 y<=1", 10);
        Check.faulty("price 1 y=>1", 10);
        Check.faulty("price 1 y1", 9);
    }

    private static void compares() {
        Check.sentence("one of < = >: the number itself is neither less nor more");
        blows("k<8", false);
        blows("k<9", false);
        blows("k<10", true);
        blows("k=8", false);
        blows("k=9", true);
        blows("k=10", false);
        blows("k>8", true);
        blows("k>9", false);
        blows("k>10", false);
        blows("s<0", false);
        blows("s=0", true);
        blows("s>0", false);
        blows("s<99", true);
        blows("s>99", false);
        blows("s=99", false);
        for (char letter : "fskty".toCharArray()) {
            blows(letter + "<0", false);
            blows("!" + letter + "<0", true);
            blows("f=0&!" + letter + "<0", true);
            blows("f=0&" + letter + "<0|f=0", true);
            blows(letter + ">99", false);
            blows(letter + "<99", true);
        }
    }

    private static String closing(String open) {
        return open.replace("!", "").replace('(', ')');
    }

    private static void fiveOpen() {
        Check.sentence("At most 5 of ! and ( are open");
        for (int size = 1; size <= 5; size++) {
            for (int bits = 0; bits < 1 << size; bits++) {
                StringBuilder open = new StringBuilder();
                for (int i = 0; i < size; i++) {
                    open.append((bits >> i & 1) == 0 ? '!' : '(');
                }
                int nots = size - closing(open.toString()).length();
                blows(open + "f=0" + closing(open.toString()), nots % 2 == 0);
                if (size == 5) {
                    Check.faulty("wind 1 " + open + "!f=0" + closing(open.toString()), 12);
                    Check.faulty("price 1 " + open + "(f=0)" + closing(open.toString()), 13);
                }
            }
        }
    }

    private static void openTillItsClose() {
        Check.sentence("a ( till its )");
        blows("(((((f=0)))))&(((((f=0)))))", true);
        blows("((((f=0))&((f=0))))|(((((f=1)))))", true);
        blows("(((((f=0))))&!!!!f=0)", true);
        blows("(((((f=0))))|((((f=1)))))", true);
        Check.faulty("wind 1 (((((f=0)(f=0)))))", 16);
        Check.faulty("wind 1 (((((f=0|(f=0))))))", 16);
        Check.faulty("wind 1 (((((f=0))))|(((((f=1))))))", 24);
        Check.faulty("wind 1 (f=0&(f=0&(f=0&(f=0&(f=0&(f=0))))))", 32);
        Check.faulty("wind 1 (f=0&!f=1&(f=0&(f=0&(f=0&(f=0&!f=1)))))", 37);
    }

    private static void openTillItsPartEnds() {
        Check.sentence("a ! till its F ends");
        blows("!!!!!f=1&!!!!!f=1", true);
        blows("!!!!!f=1|!!!!!f=0", true);
        blows("!!!!!f=1&(((((f=0)))))", true);
        blows("!(!(f=1)&!!!f=1)", false);
        blows("!!!(f=0|!f=1&!f=1)", false);
        blows("!!!!(f=0)&!!!!(f=0)", true);
        Check.faulty("wind 1 !(!(f=1)&!!!!f=1)", 19);
        Check.faulty("wind 1 !!!!(f=0&!f=1)", 16);
        Check.faulty("wind 1 !!!!!(f=0)", 12);
        Check.faulty("wind 1 !!!!!f=1&!!!!!!f=1", 21);
    }

    // ---- FAULT

    private static void firstByte() {
        Check.sentence("FAULT: the place of the first byte with which no SCHOOL can go on");
        Check.faulty("x", 0);
        Check.faulty("xbear 1;;", 0);
        Check.faulty("bxar 1;;", 1);
        Check.faulty("bear 1;bexr;;", 9);
        Check.faulty("bear 111111", 7);
        Check.faulty("bear 12;turn 012", 14);
        Check.faulty("bear 12;wind 1 f=1&z", 19);
        Check.faulty("bear 12;wind 1 f=1&(s=1&)", 24);
    }

    private static void endsTooEarly() {
        Check.sentence("FAULT: the size, if it ends too early");
        beginnings("bear 1_0_;turn 9_9_");
        beginnings("wind 10 f=1_0_&(s<2|!y>30)_;turn 7_");
        beginnings("price 7 !!(k=6)_;bear 0_");
        beginnings("price 1 (((((t>9)))))_|y=1_;wind 0 !!!!!s=3_3_");
    }

    /** Each beginning of a text is a school where a _ stands, and ends too early elsewhere. */
    private static void beginnings(String marked) {
        TreeSet<Integer> ends = new TreeSet<>();
        StringBuilder text = new StringBuilder();
        for (char sign : marked.toCharArray()) {
            if (sign == '_') {
                ends.add(text.length());
            } else {
                text.append(sign);
            }
        }
        for (int size = 0; size <= text.length(); size++) {
            String beginning = text.substring(0, size);
            if (ends.contains(size)) {
                Check.withSchool(beginning);
            } else {
                Check.faulty(beginning, size);
            }
        }
    }

    /** At each place of some texts every byte, told by trying all beginnings. */
    private static void everyByte() {
        Check.sentence("FAULT: each byte at each place");
        for (String text : new String[] {"bear 10;turn 5", "wind 7 !f=1|(s<2&y>10)", "price 12 ((k=0))"}) {
            for (int at = 0; at <= text.length(); at++) {
                for (char sign = 1; sign < 128; sign++) {
                    String spoilt = text.substring(0, at) + sign;
                    int fault = Model.faultOf(spoilt);
                    Check.due("school of \"" + spoilt + "\"", Check.schoolOf(new EggDrop(), spoilt),
                        fault < 0 ? 0 : -10 - fault);
                }
            }
        }
    }
}
