import java.util.Map;
import java.util.Set;
import java.util.TreeSet;
import java.util.function.Consumer;

/** Promises 22 to 28: keep, back, sheet, lay, run, torn, count. */
public final class ImageSheetTest {
    private static final Check check = new Check();

    public static void main(String[] args) {
        images();
        twoImages();
        sheets();
        lays();
        runs();
        runFaults();
        counts();
        check.finish();
    }

    private static void images() {
        PooledWaves x = Check.swift("seg 1 2 3;go until 0(play 0);");
        for (int k : new int[] {-1, 2, Integer.MIN_VALUE}) {
            check.due("keep(" + k + ")", x.keep(k), -1);
            check.due("back(" + k + ")", x.back(k), -1);
        }
        check.due("back(0) of none", x.back(0), -2);
        check.due("back(1) of none", x.back(1), -2);
        check.due("keep(1)", x.keep(1), 0);
        check.due("back(0) of none still", x.back(0), -2);
        x.tick(4);
        check.due("keep(1) again", x.keep(1), 1);
        check.due("keep(0)", x.keep(0), 0);
        x.tick(5);
        check.due("keep(0) again", x.keep(0), 1);
        check.due("back(1)", x.back(1), 4);
        check.due("back(0)", x.back(0), 9);
        check.due("back(0) twice", x.back(0), 9);
        check.due("images", x.count(0), 2);
    }

    private static void first(PooledWaves x) {
        Check.tell(x, "seg 1 2 3 4 5 6 7 8;seg 11 12 13 14 15 16 17 18;seg 21 22 23 24 25 26 27 28;"
            + "go until 0(mark 1 play 0 mark 2)until 1(mark 3 play 1 mark 4 play 2);");
        x.tick(21);
        x.set(9, 9);
        x.trigger(0);
        x.tick(4);
    }

    private static void second(PooledWaves x) {
        x.again();
        x.set(6, 64);
        x.set(9, 0);
        x.trigger(0);
        x.tick(25);
        x.set(9, 8);
        x.set(8, 1);
        x.tick(2);
    }

    /** Two images whose logs and pages have nothing in common, each brought back over the other. */
    private static void twoImages() {
        Consumer<PooledWaves> toFirst = ImageSheetTest::first;
        Consumer<PooledWaves> toSecond = toFirst.andThen(x -> x.keep(0)).andThen(ImageSheetTest::second);
        Consumer<PooledWaves> both = toSecond.andThen(x -> x.keep(1));
        PooledWaves x = Check.made(toFirst);
        check.due("page 1 is under way", x.page(0, 1), 1);
        check.due("some marks", x.player(6), 5);
        x = Check.made(both);
        check.due("page 2 is under way", x.page(0, 1), 2);
        check.due("more marks", x.player(6), 14);
        check.due("back to the first", x.back(0), 25);
        check.due("back to the second", x.back(1), 27);
        Map<String, Integer> first = Questions.answers(toFirst);
        Map<String, Integer> second = Questions.answers(toSecond);
        Consumer<PooledWaves> there = both.andThen(y -> y.back(0));
        Consumer<PooledWaves> goneOn = there.andThen(y -> y.set(6, 50)).andThen(y -> y.tick(30));
        playerIs("the first", there, first);
        playerIs("the second", goneOn.andThen(y -> y.back(1)), second);
        playerIs("the first again", goneOn.andThen(y -> y.back(1)).andThen(y -> y.again()).andThen(y -> y.tick(30))
            .andThen(y -> y.back(0)), first);
    }

    /** All but the images themselves, that were not all there when it was kept. */
    private static void playerIs(String title, Consumer<PooledWaves> history, Map<String, Integer> want) {
        Set<String> but = new TreeSet<>();
        for (String question : want.keySet()) {
            if (question.startsWith("image") || question.equals("count 0")) {
                but.add(question);
            }
        }
        check.same(title, Questions.answers(history), want, but);
    }

    private static void sheets() {
        PooledWaves x = new PooledWaves();
        int[][] bad = {{-1, 0, 1}, {4, 0, 1}, {0, -1, 1}, {0, 2, 1}, {0, 0, 31}, {4, 0, -1}, {0, 2, -1},
            {-1, 0, Integer.MIN_VALUE}};
        for (int[] b : bad) {
            check.due("sheet(" + b[0] + ", " + b[1] + ", " + b[2] + ")", x.sheet(b[0], b[1], b[2]), -1);
        }
        check.due("size below 0", x.sheet(0, 0, -1), -14);
        check.due("size far below 0", x.sheet(0, 1, Integer.MIN_VALUE), -14);
        check.due("still nothing", x.count(2), -4);
        check.due("sheet of 0", x.sheet(0, 0, 0), 1);
        check.due("its cells", x.count(2), 0);
        check.due("no cell in it", x.lay(0, 0, 1), -13);
        check.due("sheet of 30", x.sheet(0, 1, 30), 1);
        check.due("its cells", x.count(2), 30);
        check.due("cell 29", x.lay(0, 29, 1), 1);
        check.due("cell 30", x.lay(0, 30, 1), -13);
        check.due("refused", x.sheet(0, 0, 31), -1);
        check.due("it stays", x.count(2), 30);
        check.due("refused by size", x.sheet(0, 0, -2), -14);
        check.due("it stays", x.count(2), 30);
        // A new row is of cells 0, and of its own lane.
        x = Check.swift("seg 1;go play 0;");
        x.sheet(3, 1, 2);
        x.lay(3, 0, 9);
        x.lay(3, 1, 2);
        check.due("renewed", x.sheet(3, 0, 3), 1);
        check.due("run of cell 0", x.run(3, 0, 0, 1), 1);
        check.due("cell 0 is 0", x.trigger(0), 1);
        check.due("run of the others", x.run(3, 0, 1, 2), 2);
        check.due("trigger 0 alone", x.player(9), 1);
        check.due("trigger 0", x.trigger(0), 1);
        check.due("as the old lane", x.run(3, 1, 0, 1), 0);
        check.due("cast", x.torn(), 2);
    }

    private static void lays() {
        PooledWaves x = new PooledWaves();
        check.due("lay(-1)", x.lay(-1, 0, 0), -1);
        check.due("lay(4)", x.lay(4, 0, 0), -1);
        check.due("lay on nothing", x.lay(0, 0, 0), -11);
        check.due("lay on nothing, no index", x.lay(0, -1, 0), -11);
        x.sheet(0, 0, 5);
        check.due("lay 4", x.lay(0, 4, 0), 1);
        check.due("lay 5", x.lay(0, 5, 0), -13);
        check.due("lay -1", x.lay(0, -1, 0), -13);
        check.due("lay far", x.lay(0, Integer.MAX_VALUE, 0), -13);
        // Bytes keep the lowest bits, longs all of them.
        int[] values = {256 + 2, 255, 128, 0x10003, -253, -256, 4, -1};
        int[] asByte = {2, -1, -1, 3, 3, 0, -1, -1};
        for (int k = 0; k < values.length; k++) {
            check.due("byte " + values[k], latched(0, values[k]), asByte[k]);
            check.due("long " + values[k], latched(1, values[k]), -1);
        }
        for (int v = 0; v < 4; v++) {
            check.due("byte " + v, latched(0, v), v);
            check.due("long " + v, latched(1, v), v);
        }
    }

    /** Which trigger a cell of that value latches; -1: none; -2: one that there is not. */
    private static int latched(int lane, int v) {
        PooledWaves x = new PooledWaves();
        x.sheet(2, lane, 1);
        x.lay(2, 0, v);
        x.run(2, lane, 0, 1);
        if (x.player(9) == 0) {
            return -1;
        }
        for (int t = 0; t < 4; t++) {
            if (x.trigger(t) == 1) {
                return t;
            }
        }
        return -2;
    }

    private static void runs() {
        PooledWaves x = Check.swift("seg 1;seg 2;go until 3(play 0)play 1;");
        x.sheet(1, 0, 30);
        for (int i = 0; i < 30; i++) {
            x.lay(1, i, -1);
        }
        x.lay(1, 4, 3);
        check.due("run 4", x.run(1, 0, 0, 4), 4);
        check.due("clock", x.player(2), 4);
        check.due("it goes on", x.player(0), 1);
        check.due("the latch is on ahead of the tick", x.run(1, 0, 4, 1), 1);
        check.due("left", x.player(0), 3);
        check.due("latch off", x.player(9), 0);
        check.due("run 20", x.run(1, 0, 10, 20), 20);
        check.due("clock", x.player(2), 25);
        check.due("last", x.player(3), 2);
        int[][] bad = {{-1, 0, 0, 1}, {4, 0, 0, 1}, {1, -1, 0, 1}, {1, 2, 0, 1}, {1, 0, 0, -1}, {1, 0, 0, 21}};
        x.run(1, 1, 0, 1);
        for (int[] b : bad) {
            check.due("run(" + b[0] + ", " + b[1] + ", " + b[2] + ", " + b[3] + ")", x.run(b[0], b[1], b[2], b[3]),
                -1);
            check.due("torn stays", x.torn(), 2);
        }
        check.due("clock stays", x.player(2), 25);
    }

    private static void runFaults() {
        PooledWaves x = new PooledWaves();
        check.due("nothing", x.run(0, 0, -5, 3), 0);
        check.due("null first", x.torn(), 1);
        check.due("n 0", x.run(0, 1, -5, 0), 0);
        check.due("torn 0", x.torn(), 0);
        x.sheet(0, 0, 3);
        check.due("cast", x.run(0, 1, -5, 3), 0);
        check.due("cast before index", x.torn(), 2);
        for (int f : new int[] {-1, 3, Integer.MAX_VALUE, Integer.MIN_VALUE}) {
            check.due("index " + f, x.run(0, 0, f, 20), 0);
            check.due("torn of " + f, x.torn(), 3);
        }
        check.due("no tick by a fault", x.player(2), 0);
        check.due("three of five", x.run(0, 0, 0, 5), 3);
        check.due("torn of five", x.torn(), 3);
        check.due("three ticks", x.player(2), 3);
        check.due("two", x.run(0, 0, 1, 2), 2);
        check.due("torn of two", x.torn(), 0);
        check.due("n 0 at a wrong index", x.run(0, 1, 99, 0), 0);
        check.due("torn 0", x.torn(), 0);
        x.run(0, 0, 9, 1);
        Check.tell(x, "go;");
        check.due("torn stays by a text", x.torn(), 3);
        check.due("sheets stay by a text", x.count(2), 3);
    }

    private static void counts() {
        PooledWaves x = new PooledWaves();
        check.due("count(-1)", x.count(-1), -1);
        check.due("count(3)", x.count(3), -1);
        check.due("images", x.count(0), 0);
        x.keep(1);
        check.due("one image", x.count(0), 1);
        x.keep(1);
        check.due("still one", x.count(0), 1);
        x.keep(0);
        check.due("two images", x.count(0), 2);
        x.feed('g');
        check.due("bytes", x.count(1), 1);
        x.sheet(1, 0, 7);
        check.due("sheet 0 alone", x.count(2), -4);
        x.sheet(0, 1, 7);
        check.due("cells", x.count(2), 7);
    }
}
