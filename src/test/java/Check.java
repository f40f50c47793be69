/** What the tests share: answers compared, texts fed, and the end with its exit code. */
final class Check {
    private static int wrong = 0;
    private static int asked = 0;
    private static int sentences = 0;
    private static String words = "";

    private Check() {
    }

    /** From here on it is tested what these words of the document say. */
    static void sentence(String newWords) {
        sentences++;
        words = "\"" + newWords + "\": ";
    }

    static void due(String call, long got, long want) {
        asked++;
        if (got != want) {
            wrong++;
            System.out.println(words + call + " answered " + got + ", due is " + want);
        }
    }

    static void isTrue(String what, boolean holds) {
        due(what, holds ? 1 : 0, 1);
    }

    static void feedAll(EggDrop x, String text) {
        for (int i = 0; i < text.length(); i++) {
            x.feed(text.charAt(i));
        }
    }

    /** The answer of school() to a text on a tape that was empty. */
    static int schoolOf(EggDrop x, String text) {
        feedAll(x, text);
        return x.school();
    }

    static EggDrop withSchool(String text) {
        EggDrop x = new EggDrop();
        due("school of " + text, schoolOf(x, text), 0);
        return x;
    }

    /** The answer of school() to a text that is none; the school that held holds, and the tape is empty. */
    static void faulty(String text, int fault) {
        EggDrop x = withSchool("bear 7");
        due("school of \"" + text + "\"", schoolOf(x, text), -10 - fault);
        due("count(4) behind \"" + text + "\"", x.count(4), 0);
        due("count(1) behind \"" + text + "\"", x.count(1), 1);
        due("told(1) behind \"" + text + "\"", x.told(1), 7);
        due("the next school", schoolOf(x, "bear 8"), 1);
        due("told(1) then", x.told(1), 8);
    }

    /** All that the calls that change nothing tell of an object. */
    static String all(EggDrop x) {
        StringBuilder out = new StringBuilder();
        for (int what = -1; what <= 8; what++) {
            out.append(x.told(what)).append(' ').append(x.count(what)).append(' ');
        }
        for (int layer = -1; layer <= 8; layer++) {
            for (int what = -1; what <= 7; what++) {
                out.append(x.of(layer, what)).append(' ').append(x.as(layer, what)).append(' ');
            }
        }
        for (int side = -1; side <= 4; side++) {
            for (int floor = -1; floor <= 21; floor++) {
                for (int what = 0; what < 5; what++) {
                    out.append(x.fall(floor, side, what)).append(' ');
                }
            }
            out.append(x.highest(side)).append('\n');
        }
        out.append(x.strong(0)).append(' ').append(x.strong(1)).append(' ').append(x.looked());
        for (int i = 0; i < 22; i++) {
            out.append(' ').append(x.trace(i));
        }
        return out.toString();
    }

    static void end() {
        String of = sentences == 0 ? "" : " by " + sentences + " sentences";
        System.out.println(asked + " answers asked" + of + ", " + wrong + " not as due");
        if (wrong != 0 || asked == 0) {
            System.exit(1);
        }
    }
}
