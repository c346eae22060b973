import java.util.ArrayList;
import java.util.List;
import java.util.Map;
import java.util.Set;
import java.util.function.Consumer;
import java.util.function.ToIntFunction;

/**
 * The first sentence of the terms: BAD, STATE, FULL, NONE, the first that fits; what is refused changes nothing
 * (but the tape, as told). All that can be asked is asked behind each refused call.
 */
public final class RefusedTest {
    private static final int MIN = Integer.MIN_VALUE, MAX = Integer.MAX_VALUE;
    private static final Check check = new Check();

    private record Call(String name, ToIntFunction<PooledWaves> made, int due) {
    }

    public static void main(String[] args) {
        busyIsBusy();
        refusedAnywhere();
        refusedWhenNew();
        refusedWhenBusy();
        refusedByAFullTape();
        askingChangesNothing();
        faultyTexts();
        faultyRuns();
        theFirstThatFits();
        check.finish();
    }

    // ---- what the calls are made upon

    private static void busy(PooledWaves x) {
        Check.tell(x, "seg 1 2 3 4 5 6 7 8 9 10 11 12;seg 21 22;seg 12 21;"
            + "go mark 1 loop 3(play 0 until 2(play 1 mark 2))until 3(play 2);");
        x.set(8, 2);
        x.set(6, 20);
        x.set(7, 1);
        x.tick(14);
        x.trigger(2);
        x.tick(9);
        x.keep(0);
        x.set(9, 5);
        x.trigger(2);
        x.tick(7);
        x.keep(1);
        x.set(8, 1);
        x.set(10, 9);
        x.tick(2);
        x.trigger(0);
        x.trigger(3);
        x.sheet(0, 0, 5);
        x.lay(0, 1, 3);
        x.lay(0, 4, -2);
        x.sheet(1, 1, 30);
        x.lay(1, 29, 2);
        x.lay(1, 0, 256);
        x.sheet(2, 0, 0);
        x.run(0, 1, 0, 1);
        Check.tell(x, "seg 5;go play 1;");
        Check.feed(x, "seg 9 8;go play 0;");
    }

    private static void fullTape(PooledWaves x) {
        String text = "seg 7;go play 0 mark 1;";
        Check.feed(x, text + " ".repeat(300 - text.length()));
    }

    private static void busyIsBusy() {
        PooledWaves x = Check.made(RefusedTest::busy);
        check.due("it plays", x.player(0) >= 0 ? 1 : 0, 1);
        for (int what = 1; what <= 9; what++) {
            check.due("player " + what + " is above 0", x.player(what) > 0 ? 1 : 0, 1);
        }
        check.due("turns are done", x.turns(1) > 0 ? 1 : 0, 1);
        check.due("images", x.count(0), 2);
        check.due("bytes", x.count(1), 18);
        check.due("fault", x.fault(), 3);
        check.due("torn", x.torn(), 2);
    }

    // ---- what is refused

    private static void refuse(String title, Consumer<PooledWaves> history, List<Call> calls) {
        Map<String, Integer> before = Questions.answers(history);
        for (Call call : calls) {
            String name = title + ": " + call.name();
            PooledWaves x = Check.made(history);
            check.due(name, call.made().applyAsInt(x), call.due());
            Map<String, Integer> behind = Questions.answers(history.andThen(y -> call.made().applyAsInt(y)));
            check.same("behind " + name, behind, before, Set.of());
        }
    }

    private static void refusedAnywhere() {
        List<Call> calls = new ArrayList<>();
        ofTheText(calls);
        ofWhatIsTold(calls);
        ofThePlayer(calls);
        ofSettings(calls);
        ofImagesAndSheets(calls);
        refuse("new", x -> { }, calls);
        refuse("busy", RefusedTest::busy, calls);
    }

    private static void ofTheText(List<Call> calls) {
        for (int c : new int[] {-1, 128, 255, 256, MIN, MAX}) {
            calls.add(new Call("feed(" + c + ")", x -> x.feed(c), -1));
        }
        for (int n : new int[] {-1, 19, 301, MIN, MAX}) {
            calls.add(new Call("end(" + n + ")", x -> x.end(n), -1));
        }
    }

    private static void ofWhatIsTold(List<Call> calls) {
        for (int what : new int[] {-1, 11, MIN, MAX}) {
            calls.add(new Call("rule(" + what + ")", x -> x.rule(what), -1));
        }
        for (int p : new int[] {-1, MIN}) {
            calls.add(new Call("level(" + p + ")", x -> x.level(p), -1));
        }
        for (int p : new int[] {128, MAX}) {
            calls.add(new Call("level(" + p + ")", x -> x.level(p), -4));
        }
        for (int[] b : new int[][] {{-1, 0}, {3, 0}, {8, 0}, {MIN, 0}, {MAX, 0}, {0, -1}, {0, 3}, {0, MAX}}) {
            calls.add(new Call("segment(" + b[0] + ", " + b[1] + ")", x -> x.segment(b[0], b[1]), -1));
        }
        for (int[] b : new int[][] {{-1, 0}, {11, 0}, {24, 0}, {MIN, 0}, {MAX, 0}, {0, -1}, {0, 4}, {0, MIN}}) {
            calls.add(new Call("item(" + b[0] + ", " + b[1] + ")", x -> x.item(b[0], b[1]), -1));
        }
        for (int i : new int[] {-1, 10000, MIN, MAX}) {
            calls.add(new Call("plain(" + i + ")", x -> x.plain(i), -1));
        }
    }

    private static void ofThePlayer(List<Call> calls) {
        for (int what : new int[] {-1, 10, MIN, MAX}) {
            calls.add(new Call("player(" + what + ")", x -> x.player(what), -1));
        }
        for (int i : new int[] {-1, 0, 2, 3, 6, 11, 24, MIN, MAX}) {
            calls.add(new Call("turns(" + i + ")", x -> x.turns(i), -1));
        }
        for (int n : new int[] {0, 31, -1, MIN, MAX}) {
            calls.add(new Call("tick(" + n + ")", x -> x.tick(n), -1));
        }
        for (int i : new int[] {-1, MIN}) {
            calls.add(new Call("out(" + i + ")", x -> x.out(i), -1));
        }
        for (int i : new int[] {200, MAX}) {
            calls.add(new Call("out(" + i + ")", x -> x.out(i), -4));
        }
        for (int[] b : new int[][] {{-1, 0}, {MIN, 1}, {0, -1}, {0, 2}, {-1, 2}, {MAX, 2}}) {
            calls.add(new Call("marked(" + b[0] + ", " + b[1] + ")", x -> x.marked(b[0], b[1]), -1));
        }
        for (int[] b : new int[][] {{-1, 0}, {MIN, 1}, {-1, 2}, {0, -1}, {0, 3}, {MAX, 3}}) {
            calls.add(new Call("page(" + b[0] + ", " + b[1] + ")", x -> x.page(b[0], b[1]), -1));
        }
        for (int i : new int[] {40, MAX}) {
            calls.add(new Call("marked(" + i + ", 1)", x -> x.marked(i, 1), -4));
            calls.add(new Call("page(" + i + ", 0)", x -> x.page(i, 0), -4));
            calls.add(new Call("page(" + i + ", 1)", x -> x.page(i, 1), -4));
            calls.add(new Call("page(" + i + ", 2)", x -> x.page(i, 2), -4));
        }
        for (int t : new int[] {-1, 4, MIN, MAX}) {
            calls.add(new Call("trigger(" + t + ")", x -> x.trigger(t), -1));
        }
        for (int n : new int[] {0, 9, -1, MIN, MAX}) {
            calls.add(new Call("draw(7, " + n + ")", x -> x.draw(7, n), -1));
        }
    }

    private static void ofSettings(List<Call> calls) {
        int[][] bad = {
            {6, 0}, {6, 65}, {6, -1}, {6, MIN}, {6, MAX}, {7, -1}, {7, 3}, {7, MIN}, {7, MAX},
            {8, 0}, {8, 7}, {8, -1}, {8, MIN}, {8, MAX}, {9, -1}, {9, 10}, {9, MIN}, {9, MAX},
            {10, -1}, {10, 17}, {10, MIN}, {10, MAX}, {5, 1}, {11, 1}, {0, 1}, {-1, 1}, {MIN, 1}, {MAX, 1}};
        for (int[] b : bad) {
            calls.add(new Call("set(" + b[0] + ", " + b[1] + ")", x -> x.set(b[0], b[1]), -1));
        }
    }

    private static void ofImagesAndSheets(List<Call> calls) {
        for (int k : new int[] {-1, 2, MIN, MAX}) {
            calls.add(new Call("keep(" + k + ")", x -> x.keep(k), -1));
            calls.add(new Call("back(" + k + ")", x -> x.back(k), -1));
        }
        int[][] sheets = {{-1, 0, 1}, {4, 0, 1}, {MIN, 0, 1}, {MAX, 1, 1}, {0, -1, 1}, {0, 2, 1}, {0, 0, 31}, {1, 1, 31},
            {1, 1, MAX}, {-1, 0, -1}, {4, 1, -1}, {0, 2, -1}};
        for (int[] b : sheets) {
            calls.add(new Call("sheet(" + b[0] + ", " + b[1] + ", " + b[2] + ")", x -> x.sheet(b[0], b[1], b[2]), -1));
        }
        for (int n : new int[] {-1, MIN}) {
            calls.add(new Call("sheet(0, 0, " + n + ")", x -> x.sheet(0, 0, n), -14));
            calls.add(new Call("sheet(3, 1, " + n + ")", x -> x.sheet(3, 1, n), -14));
        }
        for (int k : new int[] {-1, 4, MIN, MAX}) {
            calls.add(new Call("lay(" + k + ", 0, 2)", x -> x.lay(k, 0, 2), -1));
        }
        calls.add(new Call("lay(3, 0, 2)", x -> x.lay(3, 0, 2), -11));
        calls.add(new Call("lay(3, -1, 2)", x -> x.lay(3, -1, 2), -11));
        int[][] runs = {{-1, 0, 0, 1}, {4, 0, 0, 1}, {0, -1, 0, 1}, {0, 2, 0, 1}, {0, 0, 0, -1}, {0, 0, 0, 21},
            {1, 1, 0, MIN}, {1, 1, 0, MAX}, {4, 0, 0, 0}, {0, 2, 0, 0}};
        for (int[] b : runs) {
            calls.add(new Call("run(" + b[0] + ", " + b[1] + ", " + b[2] + ", " + b[3] + ")",
                x -> x.run(b[0], b[1], b[2], b[3]), -1));
        }
        for (int what : new int[] {-1, 3, MIN, MAX}) {
            calls.add(new Call("count(" + what + ")", x -> x.count(what), -1));
        }
    }

    private static void refusedWhenNew() {
        refuse("new", x -> { }, List.of(
            new Call("end(1)", x -> x.end(1), -1),
            new Call("level(0)", x -> x.level(0), -4),
            new Call("segment(0, 0)", x -> x.segment(0, 0), -1),
            new Call("item(0, 0)", x -> x.item(0, 0), -1),
            new Call("turns(1)", x -> x.turns(1), -1),
            new Call("plain(0)", x -> x.plain(0), -4),
            new Call("plain(9999)", x -> x.plain(9999), -4),
            new Call("out(0)", x -> x.out(0), -4),
            new Call("marked(0, 0)", x -> x.marked(0, 0), -4),
            new Call("page(0, 0)", x -> x.page(0, 0), -4),
            new Call("back(0)", x -> x.back(0), -2),
            new Call("back(1)", x -> x.back(1), -2),
            new Call("lay(0, 0, 1)", x -> x.lay(0, 0, 1), -11)));
    }

    private static void refusedWhenBusy() {
        refuse("busy", RefusedTest::busy, List.of(
            new Call("lay(0, 5, 1)", x -> x.lay(0, 5, 1), -13),
            new Call("lay(0, -1, 1)", x -> x.lay(0, -1, 1), -13),
            new Call("lay(0, MIN, 1)", x -> x.lay(0, MIN, 1), -13),
            new Call("lay(0, MAX, 1)", x -> x.lay(0, MAX, 1), -13),
            new Call("lay(1, 30, 1)", x -> x.lay(1, 30, 1), -13),
            new Call("lay(2, 0, 1)", x -> x.lay(2, 0, 1), -13)));
        refuse("busy, one image", x -> {
            Check.tell(x, "seg 1 2;go mark 1 play 0;");
            x.tick(2);
            x.keep(0);
            x.tick(1);
        }, List.of(new Call("back(1)", x -> x.back(1), -2)));
    }

    private static void refusedByAFullTape() {
        refuse("full tape", RefusedTest::fullTape, List.of(
            new Call("feed(32)", x -> x.feed(32), -3),
            new Call("feed(0)", x -> x.feed(0), -3),
            new Call("feed(127)", x -> x.feed(127), -3),
            new Call("feed(-1)", x -> x.feed(-1), -1),
            new Call("feed(128)", x -> x.feed(128), -1),
            new Call("end(301)", x -> x.end(301), -1),
            new Call("end(-1)", x -> x.end(-1), -1)));
    }

    // ---- what only asks, and what changes one thing alone

    private static void askingChangesNothing() {
        Map<String, Integer> before = Questions.answers(RefusedTest::busy);
        List<Consumer<PooledWaves>> askings = List.of(
            x -> { x.plain(0); x.plain(77); x.plain(9999); x.whole(); x.fault(); x.torn(); },
            x -> { x.page(0, 0); x.page(0, 1); x.page(0, 2); x.page(1, 0); },
            x -> { x.marked(0, 0); x.marked(1, 1); x.out(0); x.out(20); x.turns(1); },
            x -> { x.level(0); x.segment(1, 0); x.item(4, 2); x.count(0); x.count(1); x.count(2); },
            x -> { for (int what = 0; what <= 10; what++) { x.rule(what); x.player(what); } });
        for (int k = 0; k < askings.size(); k++) {
            Consumer<PooledWaves> history = RefusedTest::busy;
            check.same("behind asking " + k, Questions.answers(history.andThen(askings.get(k))), before, Set.of());
        }
    }

    /** "THE TAPE (empty then, by a FAULT, too) ...: that which was told stays." */
    private static void faultyTexts() {
        String[] texts = {"seg 7;go play 0.", "seg 7;go play 0", "seg 7;go play 1;", "seg 7;seg" + " 1".repeat(17),
            "seg 7;go loop 1(loop 1(loop 1(loop 1(loop 1(", "seg 7;go loop 2(mark 1);"};
        Consumer<PooledWaves> busy = RefusedTest::busy;
        Map<String, Integer> before = Questions.answers(busy.andThen(x -> x.end(0)));
        for (int k = 0; k < texts.length; k++) {
            String text = texts[k];
            Consumer<PooledWaves> told = x -> {
                x.end(0);
                Check.tell(x, text);
            };
            check.due("fault of '" + text + "'", Check.made(busy.andThen(told)).fault(), k + 1);
            check.same("behind '" + text + "'", Questions.answers(busy.andThen(told)), before, Set.of("fault"));
        }
    }

    /** "by a FAULT no more (torn() tells it)": a fault ahead of the first tick changes what torn() tells alone. */
    private static void faultyRuns() {
        Map<String, Integer> before = Questions.answers(RefusedTest::busy);
        int[][] runs = {{3, 0, 0, 5, 1}, {3, 1, -1, 20, 1}, {0, 1, 0, 5, 2}, {1, 0, 30, 5, 2}, {0, 0, 5, 1, 3},
            {0, 0, -1, 20, 3}, {2, 0, 0, 1, 3}, {1, 1, 30, 1, 3}, {1, 1, MIN, 20, 3}, {1, 1, MAX, 20, 3},
            {3, 0, 0, 0, 0}, {0, 1, 99, 0, 0}, {2, 0, -1, 0, 0}, {0, 0, 0, 0, 0}};
        for (int[] r : runs) {
            String name = "run(" + r[0] + ", " + r[1] + ", " + r[2] + ", " + r[3] + ")";
            Consumer<PooledWaves> busy = RefusedTest::busy;
            Consumer<PooledWaves> behind = busy.andThen(x -> x.run(r[0], r[1], r[2], r[3]));
            check.due(name, Check.made(busy).run(r[0], r[1], r[2], r[3]), 0);
            check.due("torn() of " + name, Check.made(behind).torn(), r[4]);
            check.same("behind " + name, Questions.answers(behind), before, Set.of("torn"));
        }
    }

    /** Two answers fit: the one that stands first in the terms is given. */
    private static void theFirstThatFits() {
        PooledWaves x = new PooledWaves();
        check.due("level: BAD ahead of NONE", x.level(-1), -1);
        check.due("plain: BAD ahead of NONE", x.plain(-1), -1);
        check.due("plain: BAD ahead of NONE, too many", x.plain(10000), -1);
        check.due("out: BAD ahead of NONE", x.out(-1), -1);
        check.due("marked: BAD of what ahead of NONE", x.marked(0, 2), -1);
        check.due("marked: BAD of i ahead of NONE", x.marked(-1, 0), -1);
        check.due("page: BAD of what ahead of NONE", x.page(0, 3), -1);
        check.due("page: BAD of i ahead of NONE", x.page(-1, 2), -1);
        check.due("back: BAD ahead of STATE", x.back(2), -1);
        check.due("lay: BAD ahead of NULL", x.lay(4, 0, 0), -1);
        check.due("lay: NULL ahead of INDEX", x.lay(0, -1, 0), -11);
        check.due("sheet: BAD ahead of SIZE", x.sheet(4, 0, -1), -1);
        check.due("run: BAD ahead of a fault", x.run(0, 0, 0, 21), -1);
        check.due("no torn by that", x.torn(), 0);
        fullTape(x);
        check.due("feed: BAD ahead of FULL", x.feed(-1), -1);
        check.due("feed: FULL", x.feed(1), -3);
    }
}
