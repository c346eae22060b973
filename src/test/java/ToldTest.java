/** Promises 6 to 11: rule, level, segment, item, plain, whole. */
public final class ToldTest {
    private static final Check check = new Check();

    public static void main(String[] args) {
        sharedPool();
        leastPlace();
        drawnPools();
        items();
        wrongInputs();
        unfolded();
        unfoldedWithoutEnd();
        check.finish();
    }

    private static void sharedPool() {
        PooledWaves x = Check.told("seg 1 2 3;seg 3 4;seg 2 3 4 9;seg 2 3;seg 7;seg 9 7;go;");
        pool(x, 1, 2, 3, 4, 9, 7);
        rows(x, new int[][] {{0, 3, 3}, {2, 2, 1}, {1, 4, 1}, {1, 2, 0}, {5, 1, 1}, {4, 2, 0}});
        int[] rules = {6, 6, 14, 2, 0, 1, 16, 0, 3, 1, 4};
        for (int what = 0; what < rules.length; what++) {
            check.due("rule " + what, x.rule(what), rules[what]);
        }
    }

    private static void leastPlace() {
        // The first of two whole matches; of two overlaps with the end the longer one.
        rows(Check.told("seg 1 1 2 1 1 2;seg 1 2;seg 1 1 2 5;go;"),
            new int[][] {{0, 6, 6}, {1, 2, 0}, {3, 4, 1}});
        rows(Check.told("seg 4 4 4;seg 4 4 4 4;seg 4 4 4 4 5;go;"),
            new int[][] {{0, 3, 3}, {0, 4, 1}, {0, 5, 1}});
        // A match that only a later end would make whole is not found before it is told.
        PooledWaves x = Check.told("seg 1 2 1 2 3;seg 1 2 3;seg 3 1 2;seg 9;go;");
        rows(x, new int[][] {{0, 5, 5}, {2, 3, 0}, {4, 3, 2}, {7, 1, 1}});
        pool(x, 1, 2, 1, 2, 3, 1, 2, 9);
        check.due("8 levels are a page", x.rule(5), 1);
        check.due("9 levels", Check.told("seg 1 2 3 4 5 6 7 8 9;go;").rule(5), 2);
    }

    private static void drawnPools() {
        for (int seed = 0; seed < 300; seed++) {
            PooledWaves x = new PooledWaves();
            x.draw(seed, 8);
            int came = 0;
            int all = 0;
            int none = 0;
            for (int s = 0; s < 8; s++) {
                came += x.segment(s, 2);
                all += x.segment(s, 1);
                none += x.segment(s, 2) == 0 ? 1 : 0;
            }
            check.due("what came, seed " + seed, x.rule(1), came);
            check.due("all levels, seed " + seed, x.rule(2), all);
            check.due("none came, seed " + seed, x.rule(3), none);
            check.due("pages, seed " + seed, x.rule(5), (came + 7) / 8);
        }
    }

    private static void items() {
        PooledWaves x = Check.told("seg 1;seg 2;go play 1 loop 9(mark 8 until 3(play 0 loop 1(loop 2(play 0"
            + "))))mark 0;");
        int[][] want = {
            {0, 1, -4, 0}, {2, 9, 11, 0}, {1, 8, -4, 1}, {3, 3, 10, 1}, {0, 0, -4, 2}, {2, 1, 9, 2},
            {2, 2, 8, 3}, {0, 0, -4, 4}, {4, 2, 6, 3}, {4, 1, 5, 2}, {4, 3, 3, 1}, {4, 9, 1, 0},
            {1, 0, -4, 0}};
        check.due("items", x.rule(4), want.length);
        for (int i = 0; i < want.length; i++) {
            for (int what = 0; what < 4; what++) {
                check.due("item " + i + ", " + what, x.item(i, what), want[i][what]);
            }
        }
        check.due("item 13", x.item(13, 0), -1);
    }

    private static void wrongInputs() {
        PooledWaves x = Check.told("seg 1 2;go play 0;");
        check.due("rule(-1)", x.rule(-1), -1);
        check.due("rule(11)", x.rule(11), -1);
        check.due("level(-1)", x.level(-1), -1);
        check.due("level(1)", x.level(1), 2);
        check.due("level(2)", x.level(2), -4);
        check.due("level(1000)", x.level(1000), -4);
        check.due("segment(-1, 0)", x.segment(-1, 0), -1);
        check.due("segment(1, 0)", x.segment(1, 0), -1);
        check.due("segment(0, -1)", x.segment(0, -1), -1);
        check.due("segment(0, 3)", x.segment(0, 3), -1);
        check.due("item(-1, 0)", x.item(-1, 0), -1);
        check.due("item(1, 0)", x.item(1, 0), -1);
        check.due("item(0, -1)", x.item(0, -1), -1);
        check.due("item(0, 4)", x.item(0, 4), -1);
        check.due("plain(-1)", x.plain(-1), -1);
        check.due("plain(10000)", x.plain(10000), -1);
        check.due("plain(9999)", x.plain(9999), -4);
        check.due("plain(2)", x.plain(2), -4);
        check.due("plain(1)", x.plain(1), 2);
    }

    private static void unfolded() {
        PooledWaves x = Check.told("seg 1 2;seg 5;go mark 1 loop 2(play 0 loop 3(play 1)mark 2)play 0;");
        int[] want = {1, 2, 5, 5, 5, 1, 2, 5, 5, 5, 1, 2};
        check.due("whole", x.whole(), want.length);
        for (int i = 0; i < want.length; i++) {
            check.due("plain " + i, x.plain(i), want[i]);
        }
        check.due("plain behind", x.plain(want.length), -4);
        x = Check.told("seg" + " 1".repeat(15) + " 2;go loop 9(loop 9(loop 9(loop 9(" + "play 0 ".repeat(16)
            + "))));");
        check.due("the greatest whole", x.whole(), 9 * 9 * 9 * 9 * 16 * 16);
        check.due("plain 15", x.plain(15), 2);
        check.due("plain 9999", x.plain(9999), 9999 % 16 == 15 ? 2 : 1);
        Check.tell(x, "seg 4;go play 0 play 0;");
        Check.tell(x, "seg 4;go play 0 play 0;");
        Check.tell(x, "seg 4;go play 0;");
        check.due("whole of a shorter one", x.whole(), 1);
        check.due("plain behind a shorter one", x.plain(1), -4);
        check.due("marks alone", Check.told("go mark 1 mark 2;").whole(), 0);
        check.due("plain of marks alone", Check.told("go mark 1 mark 2;").plain(0), -4);
    }

    private static void unfoldedWithoutEnd() {
        PooledWaves x = Check.told("seg 1 2;seg 5;seg 7;go play 2 loop 9(play 0 until 3(play 1 loop 2(play 2)))"
            + "play 0;");
        check.due("whole without end", x.whole(), -4);
        int[] start = {7, 1, 2};
        for (int i = 0; i < start.length; i++) {
            check.due("plain " + i, x.plain(i), start[i]);
        }
        for (int i = 3; i < 60; i++) {
            check.due("plain " + i, x.plain(i), (i - 3) % 3 == 0 ? 5 : 7);
        }
        check.due("plain 9999", x.plain(9999), (9999 - 3) % 3 == 0 ? 5 : 7);
        // Latches that are on are of no weight here.
        x.trigger(3);
        check.due("whole with a latch", x.whole(), -4);
        check.due("plain with a latch", x.plain(6), 5);
        // An until within an until: the inner one never ends.
        x = Check.told("seg 1;seg 2;go until 0(play 0 until 1(play 1)play 0);");
        check.due("first of the outer", x.plain(0), 1);
        check.due("then the inner", x.plain(1), 2);
        check.due("for ever", x.plain(500), 2);
    }

    private static void pool(PooledWaves x, int... levels) {
        check.due("pool", x.rule(1), levels.length);
        for (int p = 0; p < levels.length; p++) {
            check.due("level " + p, x.level(p), levels[p]);
        }
        check.due("level behind", x.level(levels.length), -4);
    }

    private static void rows(PooledWaves x, int[][] want) {
        check.due("segments", x.rule(0), want.length);
        for (int s = 0; s < want.length; s++) {
            for (int what = 0; what < 3; what++) {
                check.due("segment " + s + ", " + what, x.segment(s, what), want[s][what]);
            }
        }
    }
}
