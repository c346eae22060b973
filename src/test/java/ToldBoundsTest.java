/** Promises 6 to 11 and what part 1 of the terms says of the pool: each boundary, on both sides of it. */
public final class ToldBoundsTest {
    private static final int MIN = Integer.MIN_VALUE, MAX = Integer.MAX_VALUE;
    private static final Check check = new Check();

    public static void main(String[] args) {
        theEmptyPool();
        theFirstPlaceWhereItStands();
        theLeastPlaceAtTheEnd();
        noneInCommon();
        thePoolIsToldAnew();
        theFullPool();
        pagesOfThePool();
        ruleOfAWrongNumber();
        levelsThatAreNot();
        segmentsThatAreNot();
        itemsThatAreNot();
        partnersAndDepths();
        nothingIsUnfolded();
        plainUpTo9999();
        theGreatestWhole();
        withoutEnd();
        whatIsUnfoldedComesOut();
        check.finish();
    }

    /** A text, what its pool is, and of each segment FIRST, how many levels, how many came. */
    private static void pool(String segments, int[] levels, int[]... rows) {
        PooledWaves x = Check.told(segments + "go;");
        check.due("pool of '" + segments + "'", x.rule(1), levels.length);
        for (int p = 0; p < levels.length; p++) {
            check.due("level " + p + " of '" + segments + "'", x.level(p), levels[p]);
        }
        check.due("no level more of '" + segments + "'", x.level(levels.length), -4);
        int all = 0;
        int none = 0;
        for (int s = 0; s < rows.length; s++) {
            for (int what = 0; what < 3; what++) {
                check.due("segment " + s + ", " + what + " of '" + segments + "'", x.segment(s, what), rows[s][what]);
            }
            all += rows[s][1];
            none += rows[s][2] == 0 ? 1 : 0;
        }
        int[] rules = {rows.length, levels.length, all, none, 0, (levels.length + 7) / 8};
        for (int what = 0; what < rules.length; what++) {
            check.due("rule " + what + " of '" + segments + "'", x.rule(what), rules[what]);
        }
    }

    private static int[] row(int... levels) {
        return levels;
    }

    private static void theEmptyPool() {
        pool("", row());
        pool("seg 0;", row(0), row(0, 1, 1));
        pool("seg 7 7 7;", row(7, 7, 7), row(0, 3, 3));
    }

    /** "the first from which its LEVELS stand one behind another, if there is one". */
    private static void theFirstPlaceWhereItStands() {
        // The whole of it; at place 0; up to the very end; in the middle; over two segments.
        pool("seg 1 2 3;seg 1 2 3;", row(1, 2, 3), row(0, 3, 3), row(0, 3, 0));
        pool("seg 1 2 3;seg 1 2;", row(1, 2, 3), row(0, 3, 3), row(0, 2, 0));
        pool("seg 1 2 3;seg 2 3;", row(1, 2, 3), row(0, 3, 3), row(1, 2, 0));
        pool("seg 1 2 3;seg 2;", row(1, 2, 3), row(0, 3, 3), row(1, 1, 0));
        pool("seg 1 2;seg 3 4;seg 2 3;", row(1, 2, 3, 4), row(0, 2, 2), row(2, 2, 2), row(1, 2, 0));
        // Of two places the first; one that overlaps another.
        pool("seg 5 6 5 6;seg 5 6;seg 6;", row(5, 6, 5, 6), row(0, 4, 4), row(0, 2, 0), row(1, 1, 0));
        pool("seg 1 1 1;seg 1 1;", row(1, 1, 1), row(0, 3, 3), row(0, 2, 0));
        // It stands at 0, though at 2 what stands on to the end is how it begins, too.
        pool("seg 2 9 2;seg 2 9;", row(2, 9, 2), row(0, 3, 3), row(0, 2, 0));
        // The greatest: 16 levels.
        pool("seg" + " 3".repeat(16) + ";" + "seg" + " 3".repeat(16) + ";", sixteen(3), row(0, 16, 16), row(0, 16, 0));
    }

    private static int[] sixteen(int level) {
        int[] row = new int[16];
        java.util.Arrays.fill(row, level);
        return row;
    }

    /** "else the least place such that what stands from there on to the end is how it begins". */
    private static void theLeastPlaceAtTheEnd() {
        // One level in common; all but one; the whole pool.
        pool("seg 1 2;seg 2 3;", row(1, 2, 3), row(0, 2, 2), row(1, 2, 1));
        pool("seg 9 1 2 3;seg 1 2 3 4;", row(9, 1, 2, 3, 4), row(0, 4, 4), row(1, 4, 1));
        pool("seg 1 2;seg 1 2 3 4;", row(1, 2, 3, 4), row(0, 2, 2), row(0, 4, 2));
        pool("seg 1;seg 1 1;", row(1, 1), row(0, 1, 1), row(0, 2, 1));
        // Of two such places the least, so that the fewest come.
        pool("seg 1 1;seg 1 1 2;", row(1, 1, 2), row(0, 2, 2), row(0, 3, 1));
        pool("seg 3 1 2 1 2;seg 1 2 1 2 1;", row(3, 1, 2, 1, 2, 1), row(0, 5, 5), row(1, 5, 1));
        pool("seg 4 4 4;seg 4 4 4 4 4;", row(4, 4, 4, 4, 4), row(0, 3, 3), row(0, 5, 2));
        // What comes is longer than the pool; 15 of 16 are there.
        pool("seg 3;seg" + " 3".repeat(16) + ";", sixteen(3), row(0, 1, 1), row(0, 16, 15));
        pool("seg" + " 3".repeat(15) + ";seg" + " 3".repeat(16) + ";", sixteen(3), row(0, 15, 15), row(0, 16, 1));
    }

    /** "(if none does, that is the end)". */
    private static void noneInCommon() {
        pool("seg 1 2;seg 3;", row(1, 2, 3), row(0, 2, 2), row(2, 1, 1));
        // How it begins stands there, but not on to the end; the pool begins as it ends.
        pool("seg 1 2 3;seg 1 2 4;", row(1, 2, 3, 1, 2, 4), row(0, 3, 3), row(3, 3, 3));
        pool("seg 3 4;seg 1 3;", row(3, 4, 1, 3), row(0, 2, 2), row(2, 2, 2));
        pool("seg 1 2;seg 2 1 3;seg 3 3;", row(1, 2, 1, 3, 3), row(0, 2, 2), row(1, 3, 2), row(3, 2, 1));
        // A segment never looks at those that are told later.
        pool("seg 2 3;seg 1 2;seg 1 2 3;", row(2, 3, 1, 2, 3), row(0, 2, 2), row(2, 2, 2), row(2, 3, 1));
    }

    private static void thePoolIsToldAnew() {
        PooledWaves x = new PooledWaves();
        for (int k = 0; k < 3; k++) {
            Check.tell(x, "seg 1 2 3 4 5 6 7 8 9;go;");
            check.due("pool of 9", x.rule(1), 9);
            check.due("pages of 9", x.rule(5), 2);
            Check.tell(x, "seg 3 4;seg 9;go;");
            check.due("pool of 3", x.rule(1), 3);
            check.due("first of a pool that is told anew", x.segment(0, 0), 0);
            check.due("all of it came", x.segment(0, 2), 2);
            check.due("9 is not found in what there was", x.segment(1, 2), 1);
            check.due("no level 3", x.level(3), -4);
            check.due("no segment 2", x.segment(2, 0), -1);
        }
        x.draw(77, 8);
        x.draw(78, 1);
        check.due("segments that are drawn anew", x.rule(0), 1);
        check.due("levels that are drawn anew", x.rule(1), x.segment(0, 1));
    }

    /** Row s of 16 levels, or fewer; none of them has a part in common by which it could be shared. */
    private static String apart(int s, int n) {
        StringBuilder text = new StringBuilder("seg");
        for (int i = 0; i < n; i++) {
            text.append(i == 0 ? "" : " ").append(apartLevel(s, i));
        }
        return text.append(';').toString();
    }

    private static int apartLevel(int s, int i) {
        return i == 0 ? s == 7 ? 8 : 9 : i == 1 ? s : (i * (s + 1) + i / 5) % 8;
    }

    /** The greatest pool that there can be: 8 segments of 16 levels, nothing shared. */
    private static void theFullPool() {
        StringBuilder text = new StringBuilder();
        for (int s = 0; s < 8; s++) {
            text.append(apart(s, 16));
        }
        PooledWaves x = Check.told(text + "go play 0play 7;");
        int[] rules = {8, 128, 128, 0, 2, 16};
        for (int what = 0; what < rules.length; what++) {
            check.due("full pool, rule " + what, x.rule(what), rules[what]);
        }
        for (int s = 0; s < 8; s++) {
            check.due("full pool, first of " + s, x.segment(s, 0), 16 * s);
            check.due("full pool, came by " + s, x.segment(s, 2), 16);
        }
        for (int p = 0; p < 128; p++) {
            check.due("full pool, level " + p, x.level(p), apartLevel(p / 16, p % 16));
        }
        check.due("full pool, level 128", x.level(128), -4);
        // Its last page is played, too.
        x.set(9, 0);
        x.set(10, 16);
        x.set(8, 6);
        // One tick lacks, then come 16 levels of segment 0, then those of segment 7.
        check.due("full pool, level 12 of segment 7", x.tick(30), apartLevel(7, 12));
        check.due("full pool, its last level", x.tick(3), apartLevel(7, 15));
        check.due("full pool, lacks", x.player(5), 1);
        check.due("full pool, page used the latest", x.page(x.player(7) - 1, 0), 15);
        check.due("full pool, over", x.player(0), -4);
        // Eight times the same 16: nothing comes behind the first one.
        PooledWaves y = Check.told(apart(3, 16).repeat(8) + "go;");
        int[] same = {8, 16, 128, 7, 0, 2};
        for (int what = 0; what < same.length; what++) {
            check.due("the same eight times, rule " + what, y.rule(what), same[what]);
        }
        for (int s = 1; s < 8; s++) {
            check.due("the same, first of " + s, y.segment(s, 0), 0);
            check.due("the same, came by " + s, y.segment(s, 2), 0);
        }
    }

    /** "5 PAGES of THE POOL"; "place p of THE POOL is in PAGE p by 8 (down)". */
    private static void pagesOfThePool() {
        check.due("pages of nothing", Check.told("go;").rule(5), 0);
        StringBuilder text = new StringBuilder();
        for (int n = 1; n <= 128; n++) {
            int s = (n - 1) / 16;
            // The last row begins as no other does, so that all of what is left of it comes.
            String last = apart(7, (n - 1) % 16 + 1);
            PooledWaves x = Check.told(text + last + "go;");
            check.due("pool of " + n, x.rule(1), n);
            check.due("pages of " + n, x.rule(5), n % 8 == 0 ? n / 8 : n / 8 + 1);
            if (n % 16 == 0) {
                text.append(apart(s, 16));
            }
        }
    }

    /** Promise 6: "BAD". */
    private static void ruleOfAWrongNumber() {
        for (PooledWaves x : new PooledWaves[] {new PooledWaves(), Check.told("seg 1;go play 0;")}) {
            for (int what : new int[] {-1, 11, 12, 16, MIN, MAX}) {
                check.due("rule(" + what + ")", x.rule(what), -1);
            }
            check.due("rule(0)", x.rule(0) >= 0 ? 1 : 0, 1);
            check.due("rule(10)", x.rule(10), 4);
        }
    }

    /** Promise 7: "BAD: p below 0; NONE: there are not so many." */
    private static void levelsThatAreNot() {
        PooledWaves x = new PooledWaves();
        check.due("level(0) of none", x.level(0), -4);
        check.due("level(-1) of none", x.level(-1), -1);
        Check.tell(x, "seg 4 5 6;go;");
        check.due("level(0)", x.level(0), 4);
        check.due("level(2)", x.level(2), 6);
        check.due("level(3)", x.level(3), -4);
        check.due("level(127)", x.level(127), -4);
        check.due("level(128)", x.level(128), -4);
        check.due("level(MAX)", x.level(MAX), -4);
        check.due("level(-1)", x.level(-1), -1);
        check.due("level(MIN)", x.level(MIN), -1);
    }

    /** Promise 8: "BAD". */
    private static void segmentsThatAreNot() {
        PooledWaves x = new PooledWaves();
        check.due("segment(0, 0) of none", x.segment(0, 0), -1);
        Check.tell(x, "seg 1;".repeat(8) + "go;");
        check.due("segment(7, 1)", x.segment(7, 1), 1);
        for (int s : new int[] {-1, 8, MIN, MAX}) {
            for (int what = 0; what < 3; what++) {
                check.due("segment(" + s + ", " + what + ")", x.segment(s, what), -1);
            }
        }
        for (int what : new int[] {-1, 3, MIN, MAX}) {
            check.due("segment(7, " + what + ")", x.segment(7, what), -1);
        }
        Check.tell(x, "seg 1;go;");
        check.due("segment(0, 2)", x.segment(0, 2), 1);
        check.due("segment(1, 2)", x.segment(1, 2), -1);
    }

    /** Promise 9: "BAD". */
    private static void itemsThatAreNot() {
        PooledWaves x = new PooledWaves();
        check.due("item(0, 0) of none", x.item(0, 0), -1);
        Check.tell(x, "go" + " mark 7".repeat(24) + ";");
        check.due("item(0, 1)", x.item(0, 1), 7);
        check.due("item(23, 1)", x.item(23, 1), 7);
        for (int i : new int[] {-1, 24, MIN, MAX}) {
            for (int what = 0; what < 4; what++) {
                check.due("item(" + i + ", " + what + ")", x.item(i, what), -1);
            }
        }
        for (int what : new int[] {-1, 4, MIN, MAX}) {
            check.due("item(23, " + what + ")", x.item(23, what), -1);
        }
    }

    /** "its PARTNER, and the other way round"; "2 PARTNER (NONE)"; "of an END that of its PARTNER". */
    private static void partnersAndDepths() {
        PooledWaves x = Check.told("seg 1;seg 2;go loop 9(until 3(loop 1(until 0(play 1)mark 9)play 0))mark 0 play 1;");
        int[][] want = {
            {2, 9, 10, 0}, {3, 3, 9, 1}, {2, 1, 7, 2}, {3, 0, 5, 3}, {0, 1, -4, 4}, {4, 0, 3, 3}, {1, 9, -4, 3},
            {4, 1, 2, 2}, {0, 0, -4, 2}, {4, 3, 1, 1}, {4, 9, 0, 0}, {1, 0, -4, 0}, {0, 1, -4, 0}};
        check.due("items", x.rule(4), want.length);
        for (int i = 0; i < want.length; i++) {
            for (int what = 0; what < 4; what++) {
                check.due("item " + i + ", " + what, x.item(i, what), want[i][what]);
            }
        }
        // The first and the last of 24 are partners.
        x = Check.told("seg 1;go until 2(" + "play 0 ".repeat(22) + ");");
        check.due("partner of the first", x.item(0, 2), 23);
        check.due("partner of the last", x.item(23, 2), 0);
        check.due("number of the last", x.item(23, 1), 2);
    }

    // ---- promises 10 and 11

    private static void nothingIsUnfolded() {
        for (PooledWaves x : new PooledWaves[] {new PooledWaves(), Check.told("go;"), Check.told("seg 1;go;"),
            Check.told("go" + " mark 1".repeat(24) + ";")}) {
            check.due("whole of nothing", x.whole(), 0);
            check.due("plain 0 of nothing", x.plain(0), -4);
            check.due("plain 9999 of nothing", x.plain(9999), -4);
            check.due("plain 10000 of nothing", x.plain(10000), -1);
            check.due("plain -1 of nothing", x.plain(-1), -1);
        }
        PooledWaves x = Check.told("seg 42;go play 0;");
        check.due("whole of one", x.whole(), 1);
        check.due("plain 0 of one", x.plain(0), 42);
        check.due("plain 1 of one", x.plain(1), -4);
    }

    /** "BAD: i below 0 or above 9999; NONE: there are not so many." */
    private static void plainUpTo9999() {
        String levels = "seg 1 1 1 1;seg 2 2 2 2 2 2;seg 3 3 3 3 3 3 3 3 3 3 3 3 4;seg 77;";
        String loops = "go loop 9(play 0 loop 9(play 1 loop 9(play 2)))";
        PooledWaves x = Check.told(levels + loops + ";");
        check.due("whole of 9999", x.whole(), 9999);
        check.due("plain 9998 of 9999", x.plain(9998), 4);
        check.due("plain 9999 of 9999", x.plain(9999), -4);
        x = Check.told(levels + loops + "play 3;");
        check.due("whole of 10000", x.whole(), 10000);
        check.due("plain 9998 of 10000", x.plain(9998), 4);
        check.due("plain 9999 of 10000", x.plain(9999), 77);
        check.due("plain 10000 of 10000", x.plain(10000), -1);
        x = Check.told(levels + loops + "play 3 play 0;");
        check.due("whole of 10004", x.whole(), 10004);
        check.due("plain 9999 of 10004", x.plain(9999), 77);
        check.due("plain 10000 of 10004", x.plain(10000), -1);
        for (int i : new int[] {-1, MIN, MAX}) {
            check.due("plain(" + i + ")", x.plain(i), -1);
        }
        check.due("plain 0", x.plain(0), 1);
        check.due("plain 4", x.plain(4), 2);
        check.due("plain 10", x.plain(10), 3);
        check.due("plain 22", x.plain(22), 4);
    }

    private static void theGreatestWhole() {
        String seg = "seg" + " 1".repeat(15) + " 2;";
        PooledWaves x = Check.told(seg + "go loop 9(loop 9(loop 9(loop 9(" + "play 0 ".repeat(16) + "))));");
        check.due("the greatest whole", x.whole(), 6561 * 256);
        check.due("its plain 9998", x.plain(9998), 1);
        check.due("its plain 9999", x.plain(9999), 2);
        x = Check.told(seg + "go" + " play 0".repeat(24) + ";");
        check.due("24 plays of 16", x.whole(), 384);
        check.due("the last of them", x.plain(383), 2);
        check.due("none behind", x.plain(384), -4);
    }

    /** "NONE: it goes on without end." */
    private static void withoutEnd() {
        String[] programs = {"until 0(play 0)", "until 3(play 0)play 1", "play 1 until 1(play 0)", "loop 1(until 2(play 0))",
            "loop 9(play 1 until 0(play 0)play 1)", "until 0(until 0(until 0(until 0(play 0))))",
            "loop 1(loop 1(loop 1(until 1(play 0))))play 1", "until 1(loop 9(play 0))play 1"};
        for (String program : programs) {
            PooledWaves x = Check.told("seg 5 6;seg 7;go " + program + ";");
            check.due("whole of " + program, x.whole(), -4);
            check.due("plain 9999 of " + program, x.plain(9999) >= 5 ? 1 : 0, 1);
            for (int t = 0; t < 4; t++) {
                x.trigger(t);
            }
            check.due("whole with all latches on of " + program, x.whole(), -4);
            check.due("plain 10000 of " + program, x.plain(10000), -1);
        }
        PooledWaves x = Check.told("seg 5 6;seg 7;go play 1 until 1(play 0)play 1;");
        check.due("ahead of it", x.plain(0), 7);
        for (int i = 1; i < 200; i++) {
            check.due("round and round, " + i, x.plain(i), i % 2 == 1 ? 5 : 6);
        }
        check.due("plain 9998", x.plain(9998), 6);
        check.due("plain 9999", x.plain(9999), 5);
    }

    /** "UNFOLDED: the LEVELS that come OUT one by one with HOLD, RATE 16, nothing lacking, all LATCHES off". */
    private static void whatIsUnfoldedComesOut() {
        String[] programs = {"loop 2(play 0 loop 3(mark 1 play 1)play 2)play 0", "play 2 loop 9(play 1)until 1(play 2 play 0)",
            "until 0(loop 2(play 1 until 3(play 0 play 2)))", "loop 1(loop 2(loop 1(loop 2(play 0 play 2)play 1)))"};
        for (String program : programs) {
            PooledWaves x = Check.swift("seg 1 2 3;seg 4;seg 3 4 5 6;go " + program + ";");
            x.set(6, 33);
            x.set(7, 1);
            x.trigger(0);
            x.tick(3);
            int whole = x.whole();
            PooledWaves y = Check.swift("seg 1 2 3;seg 4;seg 3 4 5 6;go " + program + ";");
            y.tick(1);
            for (int i = 0; i < 60; i++) {
                if (whole >= 0 && i >= whole) {
                    check.due("over at " + i + " of " + program, y.player(0), -4);
                    check.due("no plain " + i + " of " + program, x.plain(i), -4);
                } else {
                    check.due("plain " + i + " of " + program, x.plain(i), y.tick(1));
                }
            }
        }
    }
}
