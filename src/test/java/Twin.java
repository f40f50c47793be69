import java.util.EnumMap;
import java.util.Map;
import java.util.function.ToLongFunction;

/** Two objects to which the same was done, and one call more to one of them: whether they live on alike. */
final class Twin {
    /** What an object is like ahead of the call. */
    enum State { NEW, PART, FULL, BROKEN }

    private static final Map<State, String> LIVES = new EnumMap<>(State.class);

    private Twin() {
    }

    static EggDrop make(State state) {
        switch (state) {
            case NEW: return new EggDrop();
            case PART: return part();
            case FULL: return full();
            default: return fullWithImage();
        }
    }

    /** Three layers, two schools, a tape, an egg with a crack, some of SEEN and BOOK, a trace, no image. */
    static EggDrop part() {
        EggDrop x = Check.withSchool("turn 0;bear 30;price 4 k=6");
        Check.schoolOf(x, "turn 3;bear 40;wind 7 y=1|t>1;price 9 k=2");
        x.layer(4, 3, 2, 9, 1);
        x.layer(2, 1, 2, 8, 0);
        x.layer(6, 5, 1, 7, 2);
        x.row(2, 1, 5);
        x.drop(4, 3);
        x.drop(1, 2);
        x.see(4, 3, true);
        x.see(18, 0, false);
        x.book(4, 3, x.fall(4, 3, 0));
        x.book(7, 1, x.fall(7, 1, 0));
        Check.feedAll(x, "bear 5;turn 1");
        x.act(0, 2, 1);
        return x;
    }

    /** As many of all as there may be; the egg is whole, and there is no image. */
    static EggDrop full() {
        EggDrop x = new EggDrop();
        for (int i = 0; i < 8; i++) {
            x.layer((6 - i + 7) % 7, 9 - i, i + 1, i, i % 4);
        }
        for (int k = 0; k < 3; k++) {
            x.row(0, k, k + 2);
            x.row(7, k, k + 5);
        }
        x.broken(3, true);
        for (int i = 0; i < 5; i++) {
            Check.due("school " + i, Check.schoolOf(x, "bear 9" + i + ";turn " + i + ";wind 9 y>0;price 9 k=2|s>1"), i);
        }
        Check.feedAll(x, "wind 5 " + "f=1|".repeat(23) + "0");
        x.drop(9, 0);
        for (int i = 0; i < 8; i++) {
            x.see(i, i % 4, true);
            x.book(i, i % 4, x.fall(i, i % 4, 0));
        }
        x.act(2, 2, 3);
        Check.due("signs", x.count(4), 100);
        Check.due("the trace", x.count(5), 7);
        Check.due("whole", x.told(4), 1);
        return x;
    }

    /** As full(), with an image of the time ahead, and the egg is whole no more. */
    static EggDrop fullWithImage() {
        EggDrop x = full();
        x.image();
        x.side(5, 0);
        x.drop(20, 3);
        Check.due("whole no more", x.told(4), 0);
        x.act(2, 2, 3);
        return x;
    }

    /** All that an object tells, now and in what comes: it is used up by it. The chance tells the order of what comes. */
    static String lifeOf(EggDrop x, int chance) {
        StringBuilder out = new StringBuilder(Check.all(x));
        boxesOf(x, out);
        for (int k = 0; k < 3; k++) {
            out.append(x.drop((chance + k) % 3, k)).append(' ');
            out.append(x.row(2, k, chance % 10)).append(' ').append(x.row(0, k, 1)).append(' ').append(x.row(7, k, 2));
        }
        out.append('\n').append(x.side(0, chance % 4)).append(x.side(1, chance / 4 % 4)).append(x.side(2, 1));
        out.append(Check.all(x));
        out.append(x.feed(';')).append(' ').append(x.school()).append(' ').append(x.count(4)).append('\n');
        out.append(x.egg()).append(Check.all(x));
        boxesOf(x, out);
        return out.toString();
    }

    private static void boxesOf(EggDrop x, StringBuilder out) {
        for (int floor = 0; floor <= 20; floor += 5) {
            for (int part = 0; part < 2; part++) {
                out.append(x.odds(floor, part)).append(' ').append(x.mean(floor, part)).append(' ');
                out.append(x.best(floor, part)).append(' ').append(x.lighter(floor, part, part)).append(' ');
                out.append(x.shift(floor, part)).append(' ').append(x.failed(part, x.told(7))).append('\n');
            }
        }
    }

    private static String livesOf(EggDrop x) {
        StringBuilder out = new StringBuilder(lifeOf(x, 7));
        out.append(x.undo()).append(lifeOf(x, 5));
        return out.append(x.undo()).append(x.school()).append(Check.all(x)).toString();
    }

    /** The call has this answer in such a state, and the object lives on as one does that was not asked. */
    static void same(String call, State state, long due, ToLongFunction<EggDrop> how) {
        EggDrop asked = make(state);
        Check.due(call + " of " + state, how.applyAsLong(asked), due);
        String life = LIVES.computeIfAbsent(state, of -> livesOf(make(of)));
        Check.isTrue(call + " of " + state + " changes nothing", livesOf(asked).equals(life));
    }
}
