/** What the tests share: answers compared, texts fed, and the end with its exit code. */
final class Check {
    private static int wrong = 0;
    private static int asked = 0;

    private Check() {
    }

    static void due(String call, long got, long want) {
        asked++;
        if (got != want) {
            wrong++;
            System.out.println(call + " answered " + got + ", due is " + want);
        }
    }

    static void isTrue(String what, boolean holds) {
        due(what, holds ? 1 : 0, 1);
    }

    static void feedAll(EggDrop x, String text) {
        for (int i = 0; i < text.length(); i++) {
            x.feed(text.charAt(i));
        }
    }

    /** The answer of school() to a text on a tape that was empty. */
    static int schoolOf(EggDrop x, String text) {
        feedAll(x, text);
        return x.school();
    }

    static EggDrop withSchool(String text) {
        EggDrop x = new EggDrop();
        due("school of " + text, schoolOf(x, text), 0);
        return x;
    }

    /** All that the calls that change nothing tell of an object. */
    static String all(EggDrop x) {
        StringBuilder out = new StringBuilder();
        for (int what = -1; what <= 8; what++) {
            out.append(x.told(what)).append(' ').append(x.count(what)).append(' ');
        }
        for (int layer = -1; layer <= 8; layer++) {
            for (int what = -1; what <= 7; what++) {
                out.append(x.of(layer, what)).append(' ').append(x.as(layer, what)).append(' ');
            }
        }
        for (int side = -1; side <= 4; side++) {
            for (int floor = -1; floor <= 21; floor++) {
                for (int what = 0; what < 5; what++) {
                    out.append(x.fall(floor, side, what)).append(' ');
                }
            }
            out.append(x.highest(side)).append('\n');
        }
        out.append(x.strong(0)).append(' ').append(x.strong(1)).append(' ').append(x.looked());
        for (int i = 0; i < 22; i++) {
            out.append(' ').append(x.trace(i));
        }
        return out.toString();
    }

    static void end() {
        System.out.println(asked + " answers asked, " + wrong + " not as due");
        if (wrong != 0 || asked == 0) {
            System.exit(1);
        }
    }
}
