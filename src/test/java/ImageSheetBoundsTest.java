import java.util.Map;
import java.util.Set;
import java.util.function.Consumer;

/** Promises 22 to 28, and what the terms say of images and sheets: each boundary, on both sides of it. */
public final class ImageSheetBoundsTest {
    private static final int MIN = Integer.MIN_VALUE, MAX = Integer.MAX_VALUE;
    private static final Check check = new Check();

    public static void main(String[] args) {
        imagesAre0And1();
        imagesThatAreNot();
        imagesAreGone();
        anImageIsAllOfThePlayer();
        anImageIsThePlayerAlone();
        imagesOfTheEdges();
        sheetsAre0To3();
        cellsAre0To30();
        aNewRowIsOfCells0();
        cellsThatAreNot();
        bytesHaveASign();
        longsHaveASign();
        runsAre0To20();
        runToTheEndOfTheRow();
        theFirstFault();
        runOfNoTicks();
        aCellAheadOfEachTick();
        tornIsOfTheLatestRun();
        counts();
        check.finish();
    }

    // ---- promises 22 and 23

    /** "IMAGE k (0, 1) is THE PLAYER ...: whether there was one (1, 0). BAD." */
    private static void imagesAre0And1() {
        PooledWaves x = Check.told("seg 1;go play 0;");
        for (int k = 0; k <= 1; k++) {
            check.due("keep(" + k + ")", x.keep(k), 0);
            check.due("keep(" + k + ") once more", x.keep(k), 1);
            check.due("images", x.count(0), k + 1);
        }
        for (int k : new int[] {-1, 2, MIN, MAX}) {
            check.due("keep(" + k + ")", x.keep(k), -1);
            check.due("back(" + k + ")", x.back(k), -1);
        }
        check.due("images", x.count(0), 2);
    }

    /** "STATE: there is none." */
    private static void imagesThatAreNot() {
        for (int k = 0; k <= 1; k++) {
            PooledWaves x = Check.told("seg 1;go play 0;");
            x.tick(3);
            check.due("back(" + k + ") of none", x.back(k), -2);
            check.due("the clock stays", x.player(2), 3);
            x.keep(1 - k);
            check.due("back(" + k + ") with the other one", x.back(k), -2);
            x.keep(k);
            check.due("back(" + k + ")", x.back(k), 3);
        }
    }

    /** "IMAGES are gone" by text(), draw(); they stay by a fault, by a draw that is refused, by again(). */
    private static void imagesAreGone() {
        PooledWaves x = Check.told("seg 1;go play 0;");
        x.tick(4);
        x.keep(0);
        x.keep(1);
        Check.tell(x, "seg 1;go play 1;");
        x.draw(1, 9);
        x.again();
        check.due("they stay", x.count(0), 2);
        check.due("back(0)", x.back(0), 4);
        check.due("back(1)", x.back(1), 4);
        Check.tell(x, "seg 1;go play 0;");
        check.due("they are gone by a text", x.count(0), 0);
        check.due("back(0) of none", x.back(0), -2);
        check.due("back(1) of none", x.back(1), -2);
        check.due("keep(1) anew", x.keep(1), 0);
        check.due("keep(0) anew", x.keep(0), 0);
        x.draw(1, 1);
        check.due("they are gone by a draw", x.count(0), 0);
        check.due("back(0) of none", x.back(0), -2);
        check.due("keep(0) anew", x.keep(0), 0);
    }

    private static void busy(PooledWaves x) {
        Check.tell(x, "seg 1 2 3 4 5 6 7 8 9 10 11 12;seg 21 22;seg 12 21;"
            + "go mark 1 loop 3(play 0 until 2(play 1 mark 2))until 3(play 2);");
        x.set(8, 2);
        x.set(6, 20);
        x.set(7, 1);
        x.tick(14);
        x.trigger(2);
        x.tick(9);
        x.set(9, 5);
        x.set(8, 1);
        x.set(10, 9);
        x.tick(2);
        x.trigger(0);
    }

    private static void changeAll(PooledWaves x) {
        x.trigger(2);
        x.set(6, 64);
        x.set(7, 2);
        x.set(8, 6);
        x.set(9, 0);
        x.set(10, 16);
        x.tick(30);
        x.trigger(1);
        x.trigger(3);
        x.tick(30);
    }

    /** "(with CLOCK, LAST, THE CACHE, what is ASKED, counts, logs, RATE, MODE, ROOM, LATENCY, AHEAD)". */
    private static void anImageIsAllOfThePlayer() {
        for (int k = 0; k <= 1; k++) {
            int image = k;
            Consumer<PooledWaves> kept = ((Consumer<PooledWaves>) ImageSheetBoundsTest::busy).andThen(x -> x.keep(image));
            Map<String, Integer> before = Questions.answers(kept);
            Consumer<PooledWaves> changed = kept.andThen(ImageSheetBoundsTest::changeAll);
            check.same("back(" + k + ")", Questions.answers(changed.andThen(x -> x.back(image))), before, Set.of());
            check.same("again(), back(" + k + ")", Questions.answers(changed.andThen(x -> x.again())
                .andThen(x -> x.back(image))), before, Set.of());
            // The image itself does not go on with the player that came back.
            check.same("back(" + k + ") twice", Questions.answers(changed.andThen(x -> x.back(image))
                .andThen(ImageSheetBoundsTest::changeAll).andThen(x -> x.back(image))), before, Set.of());
        }
    }

    /** The tape, the sheets, what is told, fault(), torn(), the other image are none of an image's. */
    private static void anImageIsThePlayerAlone() {
        PooledWaves x = Check.told("seg 1 2;go play 0;");
        x.keep(0);
        x.tick(5);
        x.keep(1);
        Check.tell(x, "x");
        Check.feed(x, "go;");
        x.sheet(0, 1, 4);
        x.lay(0, 2, 3);
        x.run(0, 0, 0, 1);
        check.due("back(0)", x.back(0), 0);
        check.due("tape stays", x.count(1), 3);
        check.due("sheets stay", x.count(2), 4);
        check.due("fault stays", x.fault(), 2);
        check.due("torn stays", x.torn(), 2);
        check.due("images stay", x.count(0), 2);
        check.due("items stay", x.rule(4), 1);
        check.due("a cell is as it was", x.run(0, 1, 2, 1) * 10 + x.trigger(3), 11);
        check.due("the other image", x.back(1), 5);
    }

    private static void imagesOfTheEdges() {
        // Of a new object.
        PooledWaves x = new PooledWaves();
        check.due("keep(0) when new", x.keep(0), 0);
        x.trigger(3);
        x.tick(7);
        check.due("back(0) when new", x.back(0), 0);
        check.due("over", x.player(0), -4);
        check.due("latches", x.player(9), 0);
        // Of a player that is over.
        x = Check.swift("seg 1;go play 0;");
        x.tick(9);
        x.keep(0);
        check.due("again", x.again(), 0);
        check.due("back(0) when over", x.back(0), 9);
        check.due("over", x.player(0), -4);
        // Of full logs: more than 200 that came out, more than 40 marks.
        x = Check.swift("seg 1 2 3;go until 0(play 0 mark 4);");
        for (int k = 0; k < 7; k++) {
            x.tick(30);
        }
        x.keep(1);
        x.again();
        x.set(6, 64);
        x.tick(30);
        x.tick(30);
        check.due("back(1)", x.back(1), 210);
        check.due("outs", x.player(4), 210);
        check.due("out(199)", x.out(199), 198 % 3 + 1);
        check.due("out(1)", x.out(1), 1);
        check.due("out(200)", x.out(200), -4);
        check.due("marks", x.player(6), 69);
        check.due("the earliest of the latest 40", x.marked(0, 1), 3 * 30 + 1);
        check.due("the latest", x.marked(39, 1), 3 * 69 + 1);
        check.due("no 41st", x.marked(40, 1), -4);
    }

    // ---- promises 24 and 25

    /** "SHEETS 0 to 3 are rows of BYTES (lane 0), LONGS (1)". */
    private static void sheetsAre0To3() {
        PooledWaves x = new PooledWaves();
        for (int k = 0; k <= 3; k++) {
            check.due("nothing at first, sheet " + k, x.lay(k, 0, 1), -11);
            check.due("sheet(" + k + ", 0, 1)", x.sheet(k, 0, 1), 1);
            check.due("its cell", x.lay(k, 0, 1), 1);
            check.due("sheet(" + k + ", 1, 1)", x.sheet(k, 1, 1), 1);
            check.due("its cell", x.lay(k, 0, 1), 1);
            for (int lane : new int[] {-1, 2, MIN, MAX}) {
                check.due("sheet(" + k + ", " + lane + ", 1)", x.sheet(k, lane, 1), -1);
            }
        }
        for (int k : new int[] {-1, 4, MIN, MAX}) {
            for (int lane = 0; lane <= 1; lane++) {
                check.due("sheet(" + k + ", " + lane + ", 1)", x.sheet(k, lane, 1), -1);
                check.due("run(" + k + ", " + lane + ", 0, 1)", x.run(k, lane, 0, 1), -1);
            }
            check.due("lay(" + k + ", 0, 1)", x.lay(k, 0, 1), -1);
        }
    }

    /** "of 0 to 30 CELLS"; "BAD: also n above 30; -14 (SIZE): n below 0". */
    private static void cellsAre0To30() {
        PooledWaves x = new PooledWaves();
        for (int lane = 0; lane <= 1; lane++) {
            for (int n = 0; n <= 30; n++) {
                check.due("sheet(0, " + lane + ", " + n + ")", x.sheet(0, lane, n), 1);
                check.due("cells of " + n, x.count(2), n);
                check.due("the last cell of " + n, x.lay(0, n - 1, 1), n == 0 ? -13 : 1);
                check.due("the first behind " + n, x.lay(0, n, 1), -13);
            }
            for (int n : new int[] {31, 32, 300, MAX}) {
                check.due("sheet(0, " + lane + ", " + n + ")", x.sheet(0, lane, n), -1);
            }
            for (int n : new int[] {-1, -2, MIN}) {
                check.due("sheet(0, " + lane + ", " + n + ")", x.sheet(0, lane, n), -14);
            }
            check.due("the row stays", x.count(2), 30);
        }
    }

    private static void aNewRowIsOfCells0() {
        PooledWaves x = new PooledWaves();
        x.sheet(1, 0, 30);
        for (int i = 0; i < 30; i++) {
            x.lay(1, i, 2);
        }
        x.sheet(1, 1, 10);
        x.sheet(1, 0, 30);
        for (int i = 0; i < 30; i++) {
            x.again();
            check.due("run of cell " + i, x.run(1, 0, i, 1), 1);
            check.due("cell " + i + " is 0", x.player(9) * 10 + x.trigger(0), 11);
        }
    }

    /** "-10 less the FAULT: NULL, INDEX." */
    private static void cellsThatAreNot() {
        PooledWaves x = new PooledWaves();
        for (int i : new int[] {-1, 0, 1, 30, MIN, MAX}) {
            check.due("lay(2, " + i + ", 0) of nothing", x.lay(2, i, 0), -11);
        }
        for (int lane = 0; lane <= 1; lane++) {
            x.sheet(2, lane, 0);
            for (int i : new int[] {-1, 0, 1, 30, MIN, MAX}) {
                check.due("lay(2, " + i + ", 0) of none", x.lay(2, i, 0), -13);
            }
            x.sheet(2, lane, 30);
            for (int i : new int[] {-1, 30, 31, MIN, MAX}) {
                check.due("lay(2, " + i + ", 0) of 30", x.lay(2, i, 0), -13);
            }
            check.due("lay(2, 0, 0) of 30", x.lay(2, 0, 0), 1);
            check.due("lay(2, 29, 0) of 30", x.lay(2, 29, 0), 1);
        }
    }

    /** Which latch is on by a cell; -1: none; -2: not one alone. */
    private static int latchBy(int lane, int v) {
        PooledWaves x = new PooledWaves();
        x.sheet(0, lane, 1);
        check.due("lay(0, 0, " + v + ")", x.lay(0, 0, v), 1);
        check.due("run", x.run(0, lane, 0, 1), 1);
        int on = x.player(9);
        int found = -2;
        for (int t = 0; t <= 3; t++) {
            found = x.trigger(t) == 1 && on == 1 ? t : found;
        }
        return on == 0 ? -1 : found;
    }

    /** "(its lowest bits; ...)"; "0 to 3 the LATCH of that TRIGGER is on, all others nothing". */
    private static void bytesHaveASign() {
        for (int v = -600; v <= 600; v++) {
            check.due("a byte of " + v, latchBy(0, v), (byte) v >= 0 && (byte) v <= 3 ? (byte) v : -1);
        }
        check.due("a byte of MAX", latchBy(0, MAX), -1);
        check.due("a byte of MIN", latchBy(0, MIN), 0);
        check.due("a byte of MIN and 3", latchBy(0, MIN + 3), 3);
        check.due("a byte of MAX less 255", latchBy(0, MAX - 255), 0);
        check.due("a byte of MAX less 251", latchBy(0, MAX - 251), -1);
        check.due("a byte of 0x7fffff02", latchBy(0, 0x7fffff02), 2);
    }

    /** "of LONGS v". */
    private static void longsHaveASign() {
        for (int v = -300; v <= 600; v++) {
            check.due("a long of " + v, latchBy(1, v), v >= 0 && v <= 3 ? v : -1);
        }
        for (int v : new int[] {MIN, MAX, MIN + 3, 0x7fffff02, 65536, 0x10001}) {
            check.due("a long of " + v, latchBy(1, v), -1);
        }
    }

    // ---- promises 26 and 27

    private static PooledWaves withRow(int lane, int n) {
        PooledWaves x = Check.swift("seg 1 2 3;go until 0(play 0);");
        x.sheet(1, lane, n);
        for (int i = 0; i < n; i++) {
            x.lay(1, i, 9);
        }
        return x;
    }

    /** "n (0 to 20) TICKS ... BAD: k, lane, n." */
    private static void runsAre0To20() {
        for (int lane = 0; lane <= 1; lane++) {
            PooledWaves x = withRow(lane, 30);
            for (int n = 0; n <= 20; n++) {
                int clock = x.player(2);
                check.due("run of " + n, x.run(1, lane, 0, n), n);
                check.due("ticks of " + n, x.player(2) - clock, n);
                check.due("torn of " + n, x.torn(), 0);
            }
            int clock = x.player(2);
            for (int n : new int[] {21, 30, -1, MIN, MAX}) {
                check.due("run of " + n, x.run(1, lane, 0, n), -1);
            }
            for (int other : new int[] {-1, 2, MIN, MAX}) {
                check.due("run of lane " + other, x.run(1, other, 0, 1), -1);
            }
            for (int k : new int[] {-1, 4, MIN, MAX}) {
                check.due("run of sheet " + k, x.run(k, lane, 0, 1), -1);
            }
            check.due("no tick", x.player(2), clock);
        }
    }

    private static void runToTheEndOfTheRow() {
        PooledWaves x = withRow(0, 30);
        int[][] runs = {{10, 20, 20, 0}, {11, 20, 19, 3}, {29, 1, 1, 0}, {29, 2, 1, 3}, {30, 1, 0, 3}, {30, 20, 0, 3},
            {0, 20, 20, 0}, {-1, 20, 0, 3}, {-1, 1, 0, 3}, {MIN, 20, 0, 3}, {MAX, 20, 0, 3}, {MAX - 19, 20, 0, 3}};
        for (int[] r : runs) {
            int clock = x.player(2);
            check.due("run from " + r[0] + " of " + r[1], x.run(1, 0, r[0], r[1]), r[2]);
            check.due("its torn", x.torn(), r[3]);
            check.due("its ticks", x.player(2) - clock, r[2]);
        }
        x = withRow(1, 1);
        check.due("the one cell", x.run(1, 1, 0, 1), 1);
        check.due("the one cell and one more", x.run(1, 1, 0, 2), 1);
        check.due("index", x.torn(), 3);
        x = withRow(1, 0);
        check.due("no cell", x.run(1, 1, 0, 1), 0);
        check.due("index", x.torn(), 3);
    }

    /** "A FAULT is what the machine finds, the first of these: 1 NULL ..., 2 CAST ..., 3 INDEX". */
    private static void theFirstFault() {
        PooledWaves x = new PooledWaves();
        for (int f : new int[] {0, -1, 30}) {
            for (int lane = 0; lane <= 1; lane++) {
                check.due("nothing", x.run(2, lane, f, 1), 0);
                check.due("null, whatever the cell", x.torn(), 1);
            }
        }
        for (int lane = 0; lane <= 1; lane++) {
            for (int n = 0; n <= 3; n += 3) {
                x.sheet(2, lane, n);
                for (int f : new int[] {0, -1, 30}) {
                    check.due("another lane", x.run(2, 1 - lane, f, 1), 0);
                    check.due("cast, whatever the cell", x.torn(), 2);
                }
                check.due("no such cell", x.run(2, lane, n, 1), 0);
                check.due("index", x.torn(), 3);
            }
        }
        check.due("no tick by all of these", x.player(2), 0);
    }

    /** "n 0: no CELL is looked at, torn() 0, whatever the SHEET is". */
    private static void runOfNoTicks() {
        PooledWaves x = new PooledWaves();
        x.sheet(0, 0, 3);
        for (int k = 0; k <= 1; k++) {
            for (int lane = 0; lane <= 1; lane++) {
                for (int f : new int[] {0, 3, -1, MIN, MAX}) {
                    x.run(3, 0, 0, 1);
                    check.due("torn ahead", x.torn(), 1);
                    check.due("run(" + k + ", " + lane + ", " + f + ", 0)", x.run(k, lane, f, 0), 0);
                    check.due("torn of it", x.torn(), 0);
                }
            }
        }
        check.due("no tick", x.player(2), 0);
        check.due("no latch", x.player(9), 0);
    }

    /** "ahead of each a CELL of a SHEET ...; the CELL is looked at ahead of its TICK". */
    private static void aCellAheadOfEachTick() {
        PooledWaves x = Check.swift("seg 1;seg 2;seg 3;go until 0(play 0)until 3(play 1)play 2;");
        x.sheet(0, 0, 6);
        int[] cells = {4, -1, 0, 127, 3, 1};
        for (int i = 0; i < cells.length; i++) {
            x.lay(0, i, cells[i]);
        }
        check.due("run", x.run(0, 0, 0, 6), 6);
        int[] outs = {0, 1, 1, 2, 2, 3};
        for (int i = 0; i < outs.length; i++) {
            check.due("out " + i, x.out(i), outs[i]);
        }
        check.due("over", x.player(0), -4);
        check.due("trigger 1 alone is on", x.player(9) * 10 + x.trigger(1), 11);
        // The cells ahead of the one that tears it have done what they do.
        x = Check.swift("seg 1;seg 2;go until 0(play 0)play 1;");
        x.sheet(0, 1, 3);
        x.lay(0, 0, 3);
        x.lay(0, 1, 5);
        x.lay(0, 2, 2);
        check.due("torn behind three", x.run(0, 1, 0, 20), 3);
        check.due("latches of 3 and 2", x.player(9), 2);
        check.due("latch 3", x.trigger(3), 1);
        check.due("latch 2", x.trigger(2), 1);
        check.due("clock", x.player(2), 3);
    }

    /** "The FAULT of the latest run() that was not BAD; 0." */
    private static void tornIsOfTheLatestRun() {
        PooledWaves x = new PooledWaves();
        check.due("no run yet", x.torn(), 0);
        check.due("a run that is BAD", x.run(0, 0, 0, 21), -1);
        check.due("no run yet", x.torn(), 0);
        x.run(0, 0, 0, 1);
        check.due("null", x.torn(), 1);
        x.run(0, 0, 0, 21);
        x.run(4, 0, 0, 0);
        x.run(0, 2, 0, 0);
        x.run(0, 0, 0, -1);
        check.due("null still", x.torn(), 1);
        x.sheet(0, 0, 2);
        x.lay(0, 9, 1);
        x.sheet(0, 0, -1);
        check.due("lay(), sheet() don't change it", x.torn(), 1);
        x.run(0, 1, 0, 1);
        check.due("cast", x.torn(), 2);
        x.run(0, 0, 0, 3);
        check.due("index", x.torn(), 3);
        x.tick(1);
        x.again();
        Check.tell(x, "seg 1;go play 0;");
        x.draw(1, 1);
        check.due("index still", x.torn(), 3);
        x.run(0, 0, 0, 2);
        check.due("none", x.torn(), 0);
    }

    // ---- promise 28

    /** "0 IMAGES, 1 bytes on THE TAPE, 2 CELLS of SHEET 0 (NONE: nothing). BAD." */
    private static void counts() {
        PooledWaves x = new PooledWaves();
        int[] first = {0, 0, -4};
        for (int what = 0; what <= 2; what++) {
            check.due("count(" + what + ") at first", x.count(what), first[what]);
        }
        for (int what : new int[] {-1, 3, MIN, MAX}) {
            check.due("count(" + what + ")", x.count(what), -1);
        }
        x.sheet(1, 0, 3);
        x.sheet(3, 1, 4);
        check.due("sheet 0 is nothing", x.count(2), -4);
        x.sheet(0, 0, 0);
        check.due("sheet 0 has no cell", x.count(2), 0);
        x.sheet(0, 1, 30);
        check.due("sheet 0 has 30", x.count(2), 30);
        Check.feed(x, " ".repeat(300));
        check.due("300 bytes", x.count(1), 300);
        x.text();
        check.due("none", x.count(1), 0);
        x.keep(1);
        check.due("image 1 alone", x.count(0), 1);
        x.keep(0);
        check.due("both", x.count(0), 2);
    }
}
