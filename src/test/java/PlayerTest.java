/** Promises 12 to 21: player, turns, tick, out, marked, page, trigger, set, again, draw. */
public final class PlayerTest {
    private static final Check check = new Check();

    public static void main(String[] args) {
        wrongInputs();
        ticks();
        modes();
        phaseOverChanges();
        loops();
        untils();
        marks();
        manyMarks();
        manyOuts();
        pages();
        order();
        fullCache();
        ahead();
        aheadThroughLatches();
        settings();
        again();
        draws();
        check.finish();
    }

    private static void wrongInputs() {
        PooledWaves x = Check.told("seg 1;go play 0 loop 2(play 0)until 1(play 0)mark 1;");
        check.due("player(-1)", x.player(-1), -1);
        check.due("player(10)", x.player(10), -1);
        for (int i : new int[] {-1, 0, 2, 3, 4, 5, 6, 7, 8, Integer.MAX_VALUE, Integer.MIN_VALUE}) {
            check.due("turns(" + i + ")", x.turns(i), -1);
        }
        check.due("turns(1)", x.turns(1), 0);
        check.due("turns(24) of 24", Check.told("seg 1;go" + " play 0".repeat(24) + ";").turns(24), -1);
        PooledWaves y = Check.told("seg 1;go play 0 loop 2(play 0);");
        Check.tell(y, "seg 1;go play 0 loop 2(play 0);");
        Check.tell(y, "seg 1;go play 0;");
        check.due("turns of a loop that is gone", y.turns(1), -1);
        check.due("tick(0)", x.tick(0), -1);
        check.due("tick(31)", x.tick(31), -1);
        check.due("tick(-1)", x.tick(-1), -1);
        check.due("clock", x.player(2), 0);
        check.due("out(-1)", x.out(-1), -1);
        check.due("out(0)", x.out(0), -4);
        check.due("marked(-1, 0)", x.marked(-1, 0), -1);
        check.due("marked(0, -1)", x.marked(0, -1), -1);
        check.due("marked(0, 2)", x.marked(0, 2), -1);
        check.due("marked(0, 1)", x.marked(0, 1), -4);
        check.due("page(-1, 0)", x.page(-1, 0), -1);
        check.due("page(0, -1)", x.page(0, -1), -1);
        check.due("page(0, 3)", x.page(0, 3), -1);
        for (int what = 0; what < 3; what++) {
            check.due("page(0, " + what + ")", x.page(0, what), -4);
        }
        check.due("trigger(-1)", x.trigger(-1), -1);
        check.due("trigger(4)", x.trigger(4), -1);
        check.due("latches", x.player(9), 0);
        check.due("draw(1, 0)", x.draw(1, 0), -1);
        check.due("draw(1, 9)", x.draw(1, 9), -1);
        check.due("items stay", x.rule(4), 8);
        int[][] bad = {{6, 0}, {6, 65}, {7, -1}, {7, 3}, {8, 0}, {8, 7}, {9, -1}, {9, 10}, {10, -1}, {10, 17},
            {5, 1}, {11, 1}, {-1, 1}, {0, 1}};
        for (int[] b : bad) {
            check.due("set(" + b[0] + ", " + b[1] + ")", x.set(b[0], b[1]), -1);
        }
        int[] first = {16, 0, 3, 1, 4};
        for (int what = 6; what <= 10; what++) {
            check.due("rule " + what + " stays", x.rule(what), first[what - 6]);
        }
    }

    private static void ticks() {
        PooledWaves x = Check.told("seg 3 8;go play 0;");
        check.due("at", x.player(0), 0);
        check.due("tick 1 lacks", x.tick(1), 0);
        check.due("lacked", x.player(5), 1);
        check.due("out all the same", x.player(4), 1);
        check.due("asked", x.player(8), 1);
        check.due("tick 2 lacks", x.tick(1), 0);
        check.due("phase stays", x.player(1), 0);
        check.due("tick 3", x.tick(1), 3);
        check.due("cache", x.player(7), 1);
        check.due("none asked", x.player(8), 0);
        check.due("phase", x.player(1), 16);
        check.due("at stays", x.player(0), 0);
        check.due("tick 4", x.tick(1), 8);
        check.due("over", x.player(0), -4);
        check.due("phase 0", x.player(1), 0);
        check.due("tick behind", x.tick(30), 8);
        check.due("clock", x.player(2), 34);
        check.due("last", x.player(3), 8);
        check.due("outs", x.player(4), 4);
        check.due("lacks", x.player(5), 2);
        outs(x, 0, 0, 3, 8);
    }

    private static void modes() {
        // Rate 6: phases 0, 6, 12, 18, 24, 30, 36, 42.
        int[][] want = {
            {0, 0, 0, 50, 50, 50, 7, 7},
            {0, 18, 37, 44, 28, 12, 7, 7},
            {0, 0, 50, 50, 7, 7, 7, 7}};
        for (int mode = 0; mode < 3; mode++) {
            PooledWaves x = Check.swift("seg 0 50 7;go play 0;");
            x.set(6, 6);
            x.set(7, mode);
            x.tick(1);
            for (int k = 0; k < 8; k++) {
                check.due("mode " + mode + ", phase " + 6 * k, x.tick(1), want[mode][k]);
            }
            check.due("mode " + mode + " is over", x.player(0), -4);
        }
        // The edge of NEAR, and the last level, whose next one is itself.
        PooledWaves x = Check.swift("seg 10 20;seg 90;go play 0 play 1;");
        x.set(6, 7);
        x.set(7, 2);
        x.tick(1);
        check.due("near, phase 0", x.tick(1), 10);
        check.due("near, phase 7", x.tick(1), 10);
        x.set(6, 8);
        check.due("near, phase 14", x.tick(1), 20);
        check.due("near, phase 22", x.tick(1), 20);
        check.due("near, phase 30", x.tick(1), 20);
        x = Check.swift("seg 10 20;seg 90;go play 0 play 1;");
        x.set(6, 8);
        x.set(7, 2);
        check.due("near, phase 8", x.tick(3), 20);
        x.set(7, 1);
        x.tick(1);
        check.due("mix, the last level", x.tick(1), 20);
    }

    private static void phaseOverChanges() {
        // Rate 64 over segments of 1 level: three go by without a level of theirs.
        PooledWaves x = Check.swift("seg 1;seg 2;seg 3;seg 4;seg 5 6;go play 0 play 1 play 2 play 3 play 4 play 0;");
        x.set(6, 64);
        check.due("first", x.tick(2), 1);
        check.due("four on", x.player(0), 4);
        check.due("phase 0", x.player(1), 0);
        check.due("fifth", x.tick(1), 5);
        check.due("over", x.player(0), -4);
        check.due("phase 0 by that", x.player(1), 0);
        // The phase is kept as the segment, the rate, the mode change.
        x = Check.swift("seg 1 2 3;seg 10 20 30 40;go play 0 play 1;");
        x.set(6, 19);
        x.tick(1);
        for (int k = 1; k <= 2; k++) {
            x.tick(1);
            check.due("phase " + k, x.player(1), 19 * k);
        }
        x.set(7, 1);
        x.set(6, 15);
        check.due("phase stays", x.player(1), 38);
        check.due("mixed with itself", x.tick(1), 3);
        check.due("into the next one", x.player(1), 5);
        check.due("at", x.player(0), 1);
        check.due("mixed", x.tick(1), (10 * 11 + 20 * 5) / 16);
        check.due("exactly at its end", Check.told("go;").player(1), 0);
    }

    private static void loops() {
        PooledWaves x = Check.swift("seg 1;seg 2;go loop 2(play 0 loop 3(play 1))play 0;");
        x.tick(1);
        int[] levels = {1, 2, 2, 2, 1, 2, 2, 2, 1};
        int[] outer = {0, 0, 0, 1, 1, 1, 1, 2, 2};
        int[] inner = {0, 1, 2, 3, 0, 1, 2, 3, 3};
        for (int k = 0; k < levels.length; k++) {
            check.due("loop level " + k, x.tick(1), levels[k]);
            check.due("outer turns " + k, x.turns(0), outer[k]);
            check.due("inner turns " + k, x.turns(2), inner[k]);
        }
        check.due("over", x.player(0), -4);
        check.due("again", x.again(), 1);
        check.due("outer turns anew", x.turns(0), 0);
        check.due("inner turns anew", x.turns(2), 0);
    }

    private static void untils() {
        PooledWaves x = Check.swift("seg 1;seg 2;seg 3;go until 2(play 0 until 1(play 1))play 2;");
        check.due("first", x.tick(2), 1);
        check.due("inner", x.tick(30), 2);
        check.due("trigger 2", x.trigger(2), 0);
        check.due("trigger 2 again", x.trigger(2), 1);
        check.due("latches", x.player(9), 1);
        check.due("inner goes on", x.tick(5), 2);
        check.due("latch stays", x.player(9), 1);
        check.due("trigger 1", x.trigger(1), 0);
        check.due("trigger 0", x.trigger(0), 0);
        check.due("latches", x.player(9), 3);
        check.due("at the end of the turn", x.tick(1), 2);
        check.due("both left, two off", x.player(9), 1);
        check.due("at", x.player(0), 6);
        check.due("behind", x.tick(1), 3);
        check.due("over", x.player(0), -4);
        check.due("trigger when over", x.trigger(0), 1);
        // One latch leaves one of two untils.
        x = Check.swift("seg 1;seg 2;go until 3(play 0)until 3(play 1);");
        x.trigger(3);
        check.due("latch taken by the first", x.tick(2), 1);
        check.due("latch off", x.player(9), 0);
        check.due("the second goes on", x.tick(9), 2);
        // A trigger in the middle of a turn waits for its end.
        x = Check.swift("seg 1 2 3;seg 9;go until 0(play 0)play 1;");
        x.tick(2);
        x.trigger(0);
        check.due("middle", x.tick(1), 2);
        check.due("latch waits", x.player(9), 1);
        check.due("end", x.tick(1), 3);
        check.due("latch off at the end", x.player(9), 0);
        check.due("behind", x.tick(1), 9);
    }

    private static void marks() {
        PooledWaves x = Check.told("seg 1 2;go mark 4 loop 2(mark 5 play 0)mark 6;");
        check.due("marks at first", x.player(6), 2);
        mark(x, 0, 4, 0);
        mark(x, 1, 5, 0);
        x.tick(4);
        check.due("marks", x.player(6), 3);
        mark(x, 2, 5, 4);
        x.tick(2);
        check.due("marks at the end", x.player(6), 4);
        mark(x, 3, 6, 6);
        check.due("no mark more", x.marked(4, 0), -4);
        x.tick(9);
        check.due("marks stay", x.player(6), 4);
        PooledWaves y = Check.told("go mark 1 mark 2;");
        check.due("over, marks", y.player(6), 2);
        mark(y, 0, 1, 0);
        mark(y, 1, 2, 0);
    }

    private static void manyMarks() {
        // Two marks a tick; the latest 40 are told.
        PooledWaves x = Check.swift("seg 1;go until 0(play 0 mark 1 mark 2);");
        x.tick(21);
        check.due("40 marks", x.player(6), 40);
        mark(x, 0, 1, 2);
        mark(x, 39, 2, 21);
        check.due("no 41st", x.marked(40, 1), -4);
        x.tick(3);
        check.due("46 marks", x.player(6), 46);
        mark(x, 0, 1, 5);
        mark(x, 1, 2, 5);
        mark(x, 39, 2, 24);
        check.due("40 at most", x.marked(40, 0), -4);
        x.tick(30);
        mark(x, 0, 1, 35);
        // An odd start.
        x = Check.swift("seg 1;go mark 9 until 0(play 0 mark 1 mark 2);");
        x.tick(21);
        check.due("41 marks", x.player(6), 41);
        mark(x, 0, 1, 2);
        x.tick(1);
        mark(x, 0, 1, 3);
    }

    private static void manyOuts() {
        PooledWaves x = Check.swift("seg 1 2 3;go until 0(play 0);");
        for (int k = 0; k < 10; k++) {
            x.tick(30);
        }
        check.due("outs", x.player(4), 300);
        check.due("out 0", x.out(0), 0);
        check.due("out 1", x.out(1), 1);
        check.due("out 199", x.out(199), 198 % 3 + 1);
        check.due("out 200", x.out(200), -4);
        check.due("out 299", x.out(299), -4);
    }

    private static void pages() {
        PooledWaves x = Check.told("seg 1 2 3 4 5 6 7 8 9 10;go play 0;");
        x.set(10, 0);
        x.set(9, 3);
        x.tick(1);
        check.due("asked", x.player(8), 1);
        check.due("page", x.page(0, 1), 0);
        check.due("comes", x.page(0, 2), 5);
        check.due("no other", x.page(1, 1), -4);
        check.due("no other comes", x.page(1, 2), -4);
        check.due("cache", x.page(0, 0), -4);
        x.set(9, 0);
        x.tick(3);
        check.due("still comes when told", x.page(0, 2), 5);
        check.due("lacks", x.player(5), 4);
        check.due("it came", x.tick(1), 1);
        check.due("cached", x.page(0, 0), 0);
        check.due("level 8", x.tick(7), 8);
        check.due("page 1 asked", x.page(0, 1), 1);
        check.due("page 1 comes", x.page(0, 2), 13);
        check.due("level 9", x.tick(1), 9);
        check.due("used the longest ago", x.page(0, 0), 0);
        check.due("used the latest", x.page(1, 0), 1);
        check.due("lacks", x.player(5), 4);
        // MIX needs no page for the next level.
        x = Check.told("seg 1 2 3 4 5 6 7 8 16;go play 0;");
        x.set(10, 0);
        x.set(9, 9);
        x.set(7, 1);
        x.set(6, 58);
        x.tick(11);
        check.due("phase", x.player(1), 58);
        x.tick(1);
        check.due("phase", x.player(1), 116);
        check.due("mixed with a level of a page that is not there", x.tick(1), (8 * 12 + 16 * 4) / 16);
    }

    private static void order() {
        // Three pages, a cache of two: the one used the longest ago goes.
        String text = "seg 1 2 3 4 5 6 7 8;seg 11 12 13 14 15 16 17 18;seg 21;go play 0 play 1 play 2 play 1;";
        PooledWaves x = Check.told(text);
        x.set(8, 2);
        x.set(9, 0);
        x.set(10, 1);
        x.tick(2 + 7);
        check.due("page 1 came or is asked", x.player(7) + x.player(8), 2);
        x.tick(7);
        check.due("cache", x.player(7), 2);
        check.due("latest", x.page(1, 0), 1);
        check.due("asked", x.page(0, 1), 2);
        check.due("level of page 1", x.tick(1), 18);
        check.due("page 2 came, page 1 was used then", x.page(0, 0), 2);
        check.due("level of page 2", x.tick(1), 21);
        check.due("page 0 is gone", x.page(0, 0), 1);
        check.due("page 2", x.page(1, 0), 2);
        check.due("page 1 is still there", x.tick(1), 11);
        check.due("order", x.page(0, 0), 2);
        check.due("order", x.page(1, 0), 1);
        check.due("lacks", x.player(5), 1);
        // Two that come at once, by order as they were asked, though the later told one could come first.
        x = Check.told(text);
        x.set(8, 1);
        x.set(9, 5);
        x.set(10, 0);
        x.tick(1);
        x.set(9, 0);
        x.set(10, 8);
        x.tick(1);
        check.due("first asked", x.page(0, 1), 0);
        check.due("comes", x.page(0, 2), 7);
        check.due("second asked", x.page(1, 1), 1);
        check.due("comes sooner", x.page(1, 2), 3);
        x.tick(1);
        check.due("the second came", x.page(0, 0), 1);
        check.due("the first is under way", x.page(0, 1), 0);
        check.due("one under way", x.player(8), 1);
        check.due("the first came", x.tick(4), 1);
        check.due("in place of the second", x.page(0, 0), 0);
    }

    /** Seven pages and a cache of six. */
    private static void fullCache() {
        StringBuilder text = new StringBuilder();
        for (int i = 0; i < 56; i++) {
            text.append(i % 16 == 0 ? "seg " : " ").append(i + 10).append(i % 16 == 15 || i == 55 ? ";" : "");
        }
        PooledWaves x = Check.swift(text + "go until 0(play 0 play 1 play 2 play 3)play 0;");
        check.due("pages", x.rule(5), 7);
        x.tick(11);
        check.due("place 39", x.tick(30), 49);
        cache(x, 1, 2, 5, 3, 6, 4);
        check.due("asked anew", x.page(0, 1), 0);
        check.due("place 40", x.tick(1), 50);
        cache(x, 2, 3, 6, 4, 0, 5);
        check.due("room 4", x.set(8, 4), 6);
        cache(x, 6, 4, 0, 5);
    }

    private static void cache(PooledWaves x, int... want) {
        check.due("pages in the cache", x.player(7), want.length);
        for (int i = 0; i < want.length; i++) {
            check.due("page " + i, x.page(i, 0), want[i]);
        }
        check.due("no page more", x.page(want.length, 0), -4);
    }

    private static void ahead() {
        String text = "seg 1 2 3 4 5 6 7 8 9 10 11 12;seg 21 22 23 24 25 26 27 28;go play 0 play 1;";
        int[] askedBy = new int[17];
        for (int k = 0; k <= 16; k++) {
            askedBy[k] = k < 8 ? 1 : k < 16 ? 2 : 3;
            PooledWaves x = Check.told(text);
            x.set(10, k);
            x.tick(1);
            check.due("asked by ahead " + k, x.player(8), askedBy[k]);
        }
        PooledWaves x = Check.told(text);
        x.set(6, 64);
        x.set(10, 4);
        x.tick(1);
        check.due("asked by rate 64", x.player(8), 3);
        check.due("by order", x.page(2, 1), 2);
        // It ends where it is over, and goes round as loops do.
        x = Check.told("seg 1 2 3 4 5 6 7 8;seg 9 9;go loop 2(play 0)play 1;");
        x.set(10, 15);
        x.tick(1);
        check.due("two turns", x.player(8), 1);
        x.set(10, 16);
        x.tick(1);
        check.due("and then the other", x.player(8), 2);
        check.due("turns of the copy are not kept", x.turns(0), 0);
        check.due("marks of the copy are not logged", x.player(6), 0);
        x = Check.told("seg 1;seg 2 3 4 5 6 7 8 9;go play 0 mark 1;");
        x.set(10, 16);
        x.tick(1);
        check.due("over ahead", x.player(8), 1);
        check.due("no mark of the copy", x.player(6), 0);
    }

    private static void aheadThroughLatches() {
        String text = "seg 1 2 3 4 5 6 7 8;seg 11 12 13 14 15 16 17 18;seg 21;go until 1(play 0)until 1(play 1)play 2;";
        PooledWaves x = Check.told(text);
        x.set(10, 16);
        x.tick(1);
        check.due("latch off: it goes round", x.player(8), 1);
        x.trigger(1);
        x.tick(1);
        check.due("latch on: the next until", x.player(8), 2);
        check.due("but not behind it", x.page(1, 1), 1);
        check.due("the latch itself stays", x.player(9), 1);
    }

    private static void settings() {
        PooledWaves x = Check.told("seg 1 2 3 4 5 6 7 8;seg 11 12 13 14 15 16 17 18;go until 0(play 0 play 1);");
        int[] least = {1, 0, 1, 0, 0};
        int[] most = {64, 2, 6, 9, 16};
        int[] first = {16, 0, 3, 1, 4};
        for (int what = 6; what <= 10; what++) {
            check.due("set least " + what, x.set(what, least[what - 6]), first[what - 6]);
            check.due("is least " + what, x.rule(what), least[what - 6]);
            check.due("set most " + what, x.set(what, most[what - 6]), least[what - 6]);
            check.due("is most " + what, x.rule(what), most[what - 6]);
        }
        x.set(6, 16);
        x.set(9, 0);
        x.tick(10);
        check.due("cache", x.player(7), 2);
        check.due("page 0 used the latest", x.page(1, 0), 1);
        check.due("rate", x.set(6, 1), 16);
        check.due("cache stays", x.player(7), 2);
        check.due("room 1", x.set(8, 1), 6);
        check.due("one is gone", x.player(7), 1);
        check.due("the latest used stays", x.page(0, 0), 1);
        x.again();
        check.due("rate stays", x.rule(6), 1);
        check.due("mode stays", x.rule(7), 2);
        check.due("room stays", x.rule(8), 1);
        check.due("latency stays", x.rule(9), 0);
        check.due("ahead stays", x.rule(10), 16);
    }

    private static void again() {
        PooledWaves x = Check.swift("seg 1 2;go mark 1 play 0 until 0(play 0);");
        x.tick(5);
        x.trigger(2);
        x.keep(1);
        check.due("again", x.again(), 1);
        int[] want = {1, 0, 0, 0, 0, 0, 1, 0, 0, 0};
        for (int what = 0; what < want.length; what++) {
            check.due("anew " + what, x.player(what), want[what]);
        }
        check.due("out", x.out(0), -4);
        check.due("images stay", x.count(0), 1);
        check.due("back", x.back(1), 5);
        check.due("over", Check.told("go mark 1;").again(), -4);
    }

    private static void draws() {
        for (int n = 1; n <= 8; n++) {
            for (int seed = -40; seed < 40; seed++) {
                drawn(seed * 7919 + n, n);
            }
        }
        drawn(Integer.MAX_VALUE, 8);
        drawn(Integer.MIN_VALUE, 1);
        PooledWaves x = Check.swift("seg 1;go play 0;");
        x.tick(3);
        x.keep(0);
        x.feed('a');
        x.sheet(0, 1, 3);
        x.draw(5, 3);
        check.due("images are gone", x.count(0), 0);
        check.due("tape stays", x.count(1), 1);
        check.due("sheets stay", x.count(2), 3);
        check.due("clock anew", x.player(2), 0);
        check.due("latency stays", x.rule(9), 0);
        x.draw(6, 2);
        check.due("in place of what there was", x.rule(0), 2);
        check.due("its items", x.rule(4), x.draw(6, 2));
    }

    private static int seedNow;

    private static int got() {
        seedNow = seedNow * 1103515245 + 12345;
        return (seedNow >> 16) & 32767;
    }

    /** Writes what is drawn as a text, to be told to a second object. */
    private static void drawn(int seed, int n) {
        seedNow = seed;
        StringBuilder text = new StringBuilder();
        int[][] rows = new int[n][];
        for (int s = 0; s < n; s++) {
            rows[s] = new int[got() % 16 + 1];
            for (int i = 0; i < rows[s].length; i++) {
                rows[s][i] = got() % 4;
            }
        }
        int items = 0;
        int open = 0;
        while (items < 16 || open > 0) {
            int g = got() % 8;
            if (items >= 16) {
                g = 7;
            }
            if (g <= 2) {
                text.append("play ").append(got() % n);
                items++;
            } else if (g == 3) {
                text.append("mark ").append(got() % 10);
                items++;
            } else if (g <= 5 && open < 4) {
                text.append(g == 4 ? "loop " : "until ").append(g == 4 ? got() % 3 + 1 : got() % 4);
                text.append("(play ").append(got() % n);
                items += 2;
                open++;
            } else if (g >= 6 && open > 0) {
                text.append(")");
                items++;
                open--;
            }
        }
        PooledWaves x = new PooledWaves();
        check.due("draw(" + seed + ", " + n + ")", x.draw(seed, n), items);
        check.due("its segments", x.rule(0), n);
        check.due("its fault", x.fault(), 0);
        StringBuilder segments = new StringBuilder();
        for (int s = 0; s < n; s++) {
            check.due("levels of " + s, x.segment(s, 1), rows[s].length);
            for (int i = 0; i < rows[s].length; i++) {
                check.due("level " + i + " of " + s, x.level(x.segment(s, 0) + i), rows[s][i]);
            }
            segments.append("seg 1;");
        }
        PooledWaves y = new PooledWaves();
        check.due("written out", Check.tell(y, segments + "go " + text + ";"), items);
        for (int i = 0; i < items; i++) {
            for (int what = 0; what < 4; what++) {
                check.due("item " + i + ", " + what + " of draw " + seed, x.item(i, what), y.item(i, what));
            }
        }
        check.due("no item more", x.item(items, 0), -1);
        check.due("at", x.player(0), y.player(0));
        check.due("marks", x.player(6), y.player(6));
    }

    private static void outs(PooledWaves x, int... want) {
        check.due("outs", x.player(4), want.length);
        for (int i = 0; i < want.length; i++) {
            check.due("out " + i, x.out(i), want[i]);
        }
        check.due("no out more", x.out(want.length), -4);
    }

    private static void mark(PooledWaves x, int i, int mark, int clock) {
        check.due("mark " + i, x.marked(i, 0), mark);
        check.due("clock of mark " + i, x.marked(i, 1), clock);
    }
}
