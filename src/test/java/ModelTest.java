import java.util.Arrays;
import java.util.Random;

/** Runs of calls by chance, always the same ones: the program against the model. */
public final class ModelTest {
    private static final String[] NAMES = {
        "feed", "school", "layer", "of", "side", "broken", "row", "egg", "told", "drop", "fall", "highest", "best",
        "lighter", "shift", "tries", "failed", "see", "strong", "odds", "mean", "book", "looked", "act", "trace",
        "as", "image", "undo", "count",
    };

    private static final Random CHANCE = new Random(20261118);

    private EggDrop x = new EggDrop();
    private Model model = new Model();
    private int calls = 0;

    public static void main(String[] args) {
        int runs = args.length > 0 ? Integer.parseInt(args[0]) : 300;
        for (int run = 0; run < runs; run++) {
            new ModelTest().run();
        }
        for (int i = 0; i < runs * 20; i++) {
            aText();
        }
        Check.end();
    }

    /** Texts alone, with a fault or two in most. */
    private static void aText() {
        String text = spoil(school(1 + CHANCE.nextInt(11)));
        text = text.substring(0, Math.min(100, text.length()));
        int fault = Model.faultOf(text);
        Check.due("school of \"" + text + "\"", Check.schoolOf(new EggDrop(), text), fault < 0 ? 0 : -10 - fault);
    }

    private void run() {
        while (calls < 512) {
            int kind = CHANCE.nextInt(100);
            if (kind < 3) {
                feed(school(1 + CHANCE.nextInt(4)));
            } else if (kind < 5) {
                feed(spoil(school(1 + CHANCE.nextInt(4))));
            } else {
                call(NAMES[CHANCE.nextInt(NAMES.length)]);
            }
        }
    }

    private void feed(String text) {
        for (int i = 0; i < text.length(); i++) {
            ask("feed", text.charAt(i));
        }
        ask("school");
    }

    /** Mostly in its bounds, at times one beyond, seldom anything. */
    private static int number(int least, int greatest) {
        int kind = CHANCE.nextInt(60);
        if (kind == 0) {
            return CHANCE.nextBoolean() ? least - 1 : greatest + 1;
        }
        if (kind == 1) {
            return CHANCE.nextInt();
        }
        return kind == 2 ? greatest : kind == 3 ? least : least + CHANCE.nextInt(greatest - least + 1);
    }

    private static int floor() {
        return CHANCE.nextInt(3) == 0 ? number(0, 20) : number(0, 8);
    }

    private void call(String name) {
        switch (name) {
            case "feed":
                if (CHANCE.nextInt(20) == 0) {
                    ask(name, number(0, 127));
                }
                break;
            case "school":
                if (CHANCE.nextInt(20) == 0) {
                    ask(name);
                }
                break;
            case "layer": ask(name, number(0, 6), number(0, 9), number(1, 9), number(0, 20), number(0, 3)); break;
            case "of": ask(name, number(0, 7), number(0, 6)); break;
            case "side": ask(name, number(0, 7), number(0, 3)); break;
            case "broken": ask(name, number(0, 7), CHANCE.nextInt(4) / 3); break;
            case "row": ask(name, number(0, 7), number(0, 2), number(0, 9)); break;
            case "told": ask(name, number(0, 7)); break;
            case "drop": ask(name, floor(), number(0, 3)); break;
            case "fall": ask(name, floor(), number(0, 3), number(0, 4)); break;
            case "highest": case "trace": ask(name, number(0, 3)); break;
            case "best": ask(name, floor(), number(0, 1)); break;
            case "lighter": ask(name, floor(), number(0, 3), number(0, 1)); break;
            case "shift": ask(name, floor(), number(0, 3)); break;
            case "tries": ask(name, number(1, 4), number(0, 99)); break;
            case "failed": ask(name, number(0, 3), CHANCE.nextInt(3) == 0 ? number(0, 256) : x.told(7)); break;
            case "see": ask(name, CHANCE.nextInt(30) == 0 ? -1 : floor(), number(0, 3), CHANCE.nextInt(2)); break;
            case "strong": ask(name, number(0, 1)); break;
            case "odds": case "mean": ask(name, floor(), number(0, 1)); break;
            case "book": book(); break;
            case "act": ask(name, number(0, 7), number(0, 2), number(-99, 99)); break;
            case "as": ask(name, number(0, 7), number(0, 6)); break;
            case "image": case "undo":
                if (CHANCE.nextInt(4) == 0) {
                    ask(name);
                }
                break;
            case "count": ask(name, number(0, 5)); break;
            default: ask(name);
        }
    }

    private void book() {
        int floor = CHANCE.nextInt(30) == 0 ? -1 : floor();
        int side = number(0, 3);
        ask("book", floor, side, CHANCE.nextInt(5) == 0 ? number(0, 9999) : Math.max(0, x.fall(floor, side, 0)));
    }

    private void ask(String name, int... a) {
        calls++;
        String call = "call " + calls + ": " + name + Arrays.toString(a);
        Check.due(call, answer(name, a), model.call(name, a));
    }

    private long answer(String name, int[] a) {
        switch (name) {
            case "feed": return x.feed(a[0]);
            case "school": return x.school();
            case "layer": return x.layer(a[0], a[1], a[2], a[3], a[4]);
            case "of": return x.of(a[0], a[1]);
            case "side": return x.side(a[0], a[1]);
            case "broken": return x.broken(a[0], a[1] == 1);
            case "row": return x.row(a[0], a[1], a[2]);
            case "egg": return x.egg();
            case "told": return x.told(a[0]);
            case "drop": return x.drop(a[0], a[1]);
            case "fall": return x.fall(a[0], a[1], a[2]);
            case "highest": return x.highest(a[0]);
            case "best": return x.best(a[0], a[1]);
            case "lighter": return x.lighter(a[0], a[1], a[2]);
            case "shift": return x.shift(a[0], a[1]);
            case "tries": return x.tries(a[0], a[1]);
            case "failed": return x.failed(a[0], a[1]);
            case "see": return x.see(a[0], a[1], a[2] == 1);
            case "strong": return x.strong(a[0]);
            case "odds": return x.odds(a[0], a[1]);
            case "mean": return x.mean(a[0], a[1]);
            case "book": return x.book(a[0], a[1], a[2]);
            case "looked": return x.looked();
            case "act": return x.act(a[0], a[1], a[2]);
            case "trace": return x.trace(a[0]);
            case "as": return x.as(a[0], a[1]);
            case "image": return x.image();
            case "undo": return x.undo();
            default: return x.count(a[0]);
        }
    }

    // ---- texts

    private static String school(int clauses) {
        StringBuilder out = new StringBuilder();
        for (int i = 0; i < clauses; i++) {
            out.append(i > 0 ? ";" : "");
            switch (CHANCE.nextInt(6)) {
                case 0: out.append("bear ").append(CHANCE.nextInt(100)); break;
                case 1: out.append("turn ").append(CHANCE.nextInt(8)); break;
                case 2: out.append("price ").append(CHANCE.nextInt(100)).append(' ').append(any(0)); break;
                default: out.append("wind ").append(CHANCE.nextInt(30)).append(' ').append(any(0));
            }
        }
        return out.toString();
    }

    private static String any(int open) {
        return all(open) + (CHANCE.nextInt(4) == 0 ? "|" + any(open) : "");
    }

    private static String all(int open) {
        return one(open) + (CHANCE.nextInt(4) == 0 ? "&" + all(open) : "");
    }

    private static String one(int open) {
        int kind = CHANCE.nextInt(5);
        // A sixth that is open is a fault; a few of them come.
        if (kind == 0 && open < 6) {
            return "!" + one(open + 1);
        }
        if (kind == 1 && open < 6) {
            return "(" + any(open + 1) + ")";
        }
        int most = CHANCE.nextInt(8) == 0 ? 100 : 10;
        return "" + "fskty".charAt(CHANCE.nextInt(5)) + "<=>".charAt(CHANCE.nextInt(3)) + CHANCE.nextInt(most);
    }

    private static String spoil(String text) {
        StringBuilder out = new StringBuilder(text);
        for (int i = CHANCE.nextInt(3); i > 0; i--) {
            int at = CHANCE.nextInt(out.length());
            String signs = "bearturnwindprice fskty<=>!()&|;0123456789";
            switch (CHANCE.nextInt(4)) {
                case 0: out.setCharAt(at, signs.charAt(CHANCE.nextInt(signs.length()))); break;
                case 1: out.insert(at, signs.charAt(CHANCE.nextInt(signs.length()))); break;
                case 2: out.setLength(Math.max(1, at)); break;
                default: out.deleteCharAt(at);
                    out.append(out.length() == 0 ? "b" : "");
            }
        }
        return out.toString();
    }
}
