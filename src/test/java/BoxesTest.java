/** Promises 15 to 18. */
public final class BoxesTest {
    public static void main(String[] args) {
        lighter();
        lighterWeighsLess();
        lighterRefusals();
        shift();
        shiftRefusals();
        tries();
        failed();
        Check.end();
    }

    private static void lighter() {
        EggDrop x = Check.withSchool("turn 0;bear 20");
        Check.due("no layers, whole", x.lighter(4, 0, 0), 0);
        Check.due("no layers, weight", x.lighter(4, 0, 1), 0);
        Check.due("no layers, broken", x.lighter(5, 0, 0), -5);
        Check.due("no layers, broken, weight", x.lighter(5, 0, 1), -5);
        x.layer(0, 0, 5, 3, 0);
        x.layer(0, 0, 6, 2, 0);
        x.layer(0, 0, 9, 4, 1);
        // 25 must lose 5: layer 1 alone does, and weighs least
        Check.due("layer 1 stays", x.lighter(5, 0, 0), 5);
        Check.due("it weighs 2", x.lighter(5, 0, 1), 2);
        Check.due("30 needs both", x.lighter(6, 0, 0), 4);
        Check.due("they weigh 5", x.lighter(6, 0, 1), 5);
        Check.due("all may go", x.lighter(4, 0, 0), 7);
        Check.due("nothing is left", x.lighter(4, 0, 1), 0);
        Check.due("on side 1", x.lighter(5, 1, 0), 3);
        Check.due("none helps", x.lighter(8, 0, 0), -5);
        Check.due("none helps, weight", x.lighter(8, 0, 1), -5);
        x.layer(0, 0, 1, 0, 2);
        Check.due("of several the least as bits", x.lighter(5, 0, 0), 5);
        x.broken(1, true);
        Check.due("a broken one does not help", x.lighter(5, 0, 0), 6);
        Check.due("it weighs 3", x.lighter(5, 0, 1), 3);
        x.drop(20, 0);
        Check.due("none for a broken egg", x.lighter(0, 0, 0), -5);
        x = new EggDrop();
        x.layer(0, 0, 1, 0, 0);
        x.layer(0, 0, 1, 0, 1);
        Check.due("those that weigh nothing stay", x.lighter(0, 0, 0), 0);
        for (int i = 2; i < 8; i++) {
            x.layer(0, 0, 1, 0, 2);
        }
        Check.due("eight that weigh nothing", x.lighter(0, 0, 0), 0);
        x = Check.withSchool("turn 0;bear 20");
        for (int i = 0; i < 8; i++) {
            x.layer(0, 0, 5, 1, i == 7 ? 0 : 1);
        }
        Check.due("seven of eight may go", x.lighter(5, 0, 0), 127);
    }

    private static void lighterWeighsLess() {
        EggDrop x = Check.withSchool("turn 0;bear 20;wind 3 t>2");
        x.layer(0, 0, 1, 20, 3);
        x.layer(0, 0, 1, 10, 3);
        x.layer(0, 0, 1, 5, 0);
        // 20 and 3 of weight and 3 of wind; without layer 0: 20 and 1, less 1 by layer 2
        Check.due("26 is too much", x.fall(4, 0, 2), 0);
        Check.due("without all it holds", x.lighter(4, 0, 0), 7);
        Check.schoolOf(x, "turn 0;bear 20;wind 3 t=0;wind 3 t>2");
        Check.due("the wind is that of what is left", x.lighter(4, 0, 0), 1);
        Check.due("it weighs 15", x.lighter(4, 0, 1), 15);
    }

    private static void lighterRefusals() {
        EggDrop x = new EggDrop();
        Check.due("lighter(-1, 0, 0)", x.lighter(-1, 0, 0), -1);
        Check.due("lighter(21, 0, 0)", x.lighter(21, 0, 0), -1);
        Check.due("lighter(0, -1, 0)", x.lighter(0, -1, 0), -1);
        Check.due("lighter(0, 4, 0)", x.lighter(0, 4, 0), -1);
        Check.due("lighter(0, 0, -1)", x.lighter(0, 0, -1), -1);
        Check.due("lighter(0, 0, 2)", x.lighter(0, 0, 2), -1);
    }

    private static void shift() {
        EggDrop x = Check.withSchool("turn 0");
        Check.due("no layers", x.shift(4, 0), -5);
        x.layer(0, 0, 3, 0, 1);
        x.layer(0, 0, 5, 0, 2);
        x.layer(0, 0, 5, 0, 3);
        Check.due("layer 1 to side 0", x.shift(4, 0), 10);
        Check.due("layer 2 to side 2", x.shift(4, 2), 22);
        Check.due("as it was", x.of(1, 4), 2);
        // 25 and 12: layer 1 to side 0 leaves 20 and 9
        Check.due("with a bounce", x.shift(5, 0), 10);
        x.broken(1, true);
        Check.due("broken ones do not help", x.shift(4, 0), 20);
        x.broken(0, true);
        x.broken(2, true);
        Check.due("nothing helps", x.shift(4, 0), -5);
        // 40 on side 0 and 20 on side 1: only the second can be less, and one away from side 1 is worse
        x = Check.withSchool("turn 0");
        for (int i = 0; i < 4; i++) {
            x.layer(0, 0, 9, 0, 0);
        }
        Check.due("the bounce is the greater", x.fall(8, 0, 0), 20);
        Check.due("the first of them to side 1", x.shift(8, 0), 1);
        // a layer that takes away the breaking of another one: to another side, first by the side
        x = Check.withSchool("turn 0");
        x.layer(3, 0, 2, 0, 0);
        x.layer(0, 0, 1, 0, 0);
        x.layer(3, 0, 3, 0, 0);
        Check.due("40: 2, 1, 3", x.fall(8, 0, 0), 34);
        Check.due("no better", x.shift(8, 0), -5);
        // 24: 1 and then 11 of 23; without layer 0: 12 of 24, the same force
        x = Check.withSchool("turn 0;wind 4 f=4");
        x.layer(0, 0, 1, 0, 0);
        x.layer(3, 0, 3, 0, 0);
        Check.due("12 and 12", x.fall(4, 0, 0), 12);
        Check.due("not less than now", x.shift(4, 0), -5);
        // CRUMPLED takes 10 above 20: the layer ahead of it is better on any other side
        x = Check.withSchool("turn 0;wind 2 f=4");
        x.layer(0, 0, 2, 0, 3);
        x.layer(1, 0, 5, 0, 3);
        Check.due("22, 20, 15", x.fall(4, 3, 0), 15);
        Check.due("away with layer 0, to the first side", x.shift(4, 3), 0);
        x = Check.withSchool("turn 0");
        for (int i = 0; i < 8; i++) {
            x.layer(0, 0, i == 7 ? 2 : 1, 0, 1);
        }
        Check.due("the last of eight", x.shift(2, 0), 70);
        Check.due("the last of eight to the last side", x.shift(2, 3), 73);
    }

    private static void shiftRefusals() {
        EggDrop x = new EggDrop();
        Check.due("shift(-1, 0)", x.shift(-1, 0), -1);
        Check.due("shift(21, 0)", x.shift(21, 0), -1);
        Check.due("shift(0, -1)", x.shift(0, -1), -1);
        Check.due("shift(0, 4)", x.shift(0, 4), -1);
    }

    /** By the choice of the floor of the first fall, for all numbers that are told. */
    private static void tries() {
        EggDrop x = new EggDrop();
        int[][] due = new int[5][100];
        for (int n = 0; n <= 99; n++) {
            due[1][n] = n;
        }
        for (int eggs = 2; eggs <= 4; eggs++) {
            for (int n = 1; n <= 99; n++) {
                int least = n;
                for (int floor = 1; floor <= n; floor++) {
                    least = Math.min(least, 1 + Math.max(due[eggs - 1][floor - 1], due[eggs][n - floor]));
                }
                due[eggs][n] = least;
            }
        }
        for (int eggs = 1; eggs <= 4; eggs++) {
            for (int n = 0; n <= 99; n++) {
                Check.due("tries(" + eggs + ", " + n + ")", x.tries(eggs, n), due[eggs][n]);
            }
        }
        Check.due("tries(0, 5)", x.tries(0, 5), -2);
        Check.due("tries(5, 5)", x.tries(5, 5), -2);
        Check.due("tries(-1, 5)", x.tries(-1, 5), -2);
        Check.due("tries(2, -1)", x.tries(2, -1), -2);
        Check.due("tries(2, 100)", x.tries(2, 100), -2);
        Check.due("tries(0, 100)", x.tries(0, 100), -2);
        Check.due("tries(2, greatest)", x.tries(2, Integer.MAX_VALUE), -2);
    }

    private static void failed() {
        EggDrop x = Check.withSchool("turn 0");
        Check.due("no layers: all floors", x.failed(0, 0), (1 << 21) - 1);
        Check.due("failed(0, 1)", x.failed(0, 1), -2);
        Check.due("failed(-1, 0)", x.failed(-1, 0), -1);
        Check.due("failed(4, 0)", x.failed(4, 0), -1);
        Check.due("NONE ahead of BAD", x.failed(4, 1), -1);
        x.layer(2, 1, 1, 0, 0);
        x.layer(2, 3, 1, 0, 0);
        x.layer(2, 2, 1, 0, 1);
        // layer 0: above 10, floors 3 up; layer 1: 3 less above 30, floors 7 up; layer 2: half above 20, 9 up
        Check.due("none broken", x.failed(0, 0), 7);
        Check.due("layer 0", x.failed(0, 1), 0b1111000);
        Check.due("layers 0, 1", x.failed(0, 3), 0b110000000);
        Check.due("all", x.failed(0, 7), (1 << 21) - (1 << 9));
        Check.due("layer 1 alone", x.failed(0, 2), 0);
        Check.due("on side 2", x.failed(2, 0), (1 << 21) - 1);
        Check.due("bits of no layers", x.failed(0, 8), -2);
        Check.due("bits below 0", x.failed(0, -1), -2);
        x.broken(1, true);
        Check.due("what is broken ahead is behind too", x.failed(0, 3), 0b111111000);
        Check.due("so none without it", x.failed(0, 1), 0);
        Check.due("and it alone", x.failed(0, 2), 7);
    }
}
