/** Promises 12 to 21 and part 2 of the terms: each sentence that names a boundary, on both sides of it. */
public final class PlayerBoundsTest {
    private static final int MIN = Integer.MIN_VALUE, MAX = Integer.MAX_VALUE;
    private static final Check check = new Check();

    public static void main(String[] args) {
        playerOfAWrongNumber();
        turnsOfWhatIsNoLoop();
        ticksAre1To30();
        theFirst200Outs();
        theLatest40Marks();
        manyMarksAtOnce();
        pagesThatAreNot();
        triggersAre0To3();
        latchesWait();
        behindTheLastItem();
        turnsOfALoop();
        theEndOfATurn();
        phaseAtTheEndOfASegment();
        overManySegmentsAtOnce();
        phaseIsKeptOverAllChanges();
        holdMixNear();
        theLastLevelIsItsOwnNext();
        placeAndPage();
        whatLacksIsTheLast();
        whenItIsOver();
        againFromAnywhere();
        drawsOfAWrongNumber();
        drawsAtTheirEdges();
        check.finish();
    }

    // ---- promises 12 to 18

    private static void playerOfAWrongNumber() {
        PooledWaves x = Check.told("seg 1;go play 0;");
        for (int what : new int[] {-1, 10, 11, MIN, MAX}) {
            check.due("player(" + what + ")", x.player(what), -1);
        }
        check.due("player(0)", x.player(0), 0);
        check.due("player(9)", x.player(9), 0);
        check.due("player(0) when over", new PooledWaves().player(0), -4);
    }

    /** "TURNS done of a LOOP. BAD: no LOOP." */
    private static void turnsOfWhatIsNoLoop() {
        PooledWaves x = Check.told("seg 1;go loop 1(play 0)mark 1 until 1(play 0)" + "mark 2 ".repeat(14)
            + "loop 9(play 0);");
        check.due("items", x.rule(4), 24);
        for (int i = 0; i < 24; i++) {
            check.due("turns(" + i + ")", x.turns(i), i == 0 || i == 21 ? 0 : -1);
        }
        for (int i : new int[] {-1, 24, MIN, MAX}) {
            check.due("turns(" + i + ")", x.turns(i), -1);
        }
        check.due("turns(0) of none", new PooledWaves().turns(0), -1);
    }

    /** "n (1 to 30) TICKS: LAST. BAD." */
    private static void ticksAre1To30() {
        PooledWaves x = Check.swift("seg 1 2 3 4 5 6 7 8;go until 0(play 0);");
        for (int n : new int[] {0, 31, -1, MIN, MAX}) {
            check.due("tick(" + n + ")", x.tick(n), -1);
        }
        check.due("no tick was", x.player(2), 0);
        check.due("tick(1)", x.tick(1), 0);
        check.due("one tick", x.player(2), 1);
        check.due("tick(30)", x.tick(30), 30 - 3 * 8);
        check.due("thirty more", x.player(2), 31);
        check.due("thirty came out", x.player(4), 31);
        check.due("tick(1) behind", x.tick(1), 7);
    }

    /** "The i-th (0 on) of what came OUT, the first 200 alone." */
    private static void theFirst200Outs() {
        PooledWaves x = Check.swift("seg 1 2 3 4 5 6 7;go until 0(play 0);");
        check.due("out(0) of none", x.out(0), -4);
        check.due("out(-1) of none", x.out(-1), -1);
        x.tick(1);
        check.due("out(0), it lacked", x.out(0), 0);
        check.due("out(1) of one", x.out(1), -4);
        for (int k = 0; k < 6; k++) {
            x.tick(30);
        }
        x.tick(18);
        check.due("199 came out", x.player(4), 199);
        check.due("out(198) of 199", x.out(198), 197 % 7 + 1);
        check.due("out(199) of 199", x.out(199), -4);
        x.tick(1);
        check.due("200 came out", x.player(4), 200);
        check.due("out(199) of 200", x.out(199), 198 % 7 + 1);
        check.due("out(200) of 200", x.out(200), -4);
        x.tick(1);
        check.due("201 came out", x.player(4), 201);
        check.due("out(200) of 201", x.out(200), -4);
        x.tick(30);
        check.due("231 came out", x.player(4), 231);
        for (int i = 1; i < 200; i++) {
            check.due("out(" + i + ") stays", x.out(i), (i - 1) % 7 + 1);
        }
        for (int i : new int[] {200, 230, 231, MAX}) {
            check.due("out(" + i + ") of 231", x.out(i), -4);
        }
        check.due("out(MIN)", x.out(MIN), -1);
        check.due("out(-1)", x.out(-1), -1);
    }

    /** "the latest 40 MARKS that were LOGGED (the earliest of these first)". */
    private static void theLatest40Marks() {
        PooledWaves x = Check.swift("seg 1;go until 0(play 0 mark 3);");
        check.due("marked(0, 0) of none", x.marked(0, 0), -4);
        check.due("marked(0, 1) of none", x.marked(0, 1), -4);
        x.tick(2);
        check.due("marked(0, 1) of one", x.marked(0, 1), 2);
        check.due("marked(1, 1) of one", x.marked(1, 1), -4);
        for (int n = 2; n <= 85; n++) {
            x.tick(1);
            check.due("marks", x.player(6), n);
            // The n-th mark was at clock n + 1.
            check.due("the earliest of " + n, x.marked(0, 1), Math.max(1, n - 39) + 1);
            check.due("the latest of " + n, x.marked(Math.min(n, 40) - 1, 1), n + 1);
            check.due("none behind of " + n, x.marked(Math.min(n, 40), 1), -4);
        }
        for (int what : new int[] {-1, 2, MIN, MAX}) {
            check.due("marked(0, " + what + ")", x.marked(0, what), -1);
        }
        for (int i : new int[] {-1, MIN}) {
            check.due("marked(" + i + ", 0)", x.marked(i, 0), -1);
        }
        check.due("marked(MAX, 0)", x.marked(MAX, 0), -4);
        check.due("marked(39, 0)", x.marked(39, 0), 3);
    }

    private static void manyMarksAtOnce() {
        StringBuilder text = new StringBuilder("go");
        for (int i = 0; i < 24; i++) {
            text.append(" mark ").append(i % 10);
        }
        PooledWaves x = Check.told(text + ";");
        check.due("24 marks at once", x.player(6), 24);
        check.due("and over", x.player(0), -4);
        for (int i = 0; i < 24; i++) {
            check.due("mark " + i, x.marked(i, 0), i % 10);
            check.due("clock of mark " + i, x.marked(i, 1), 0);
        }
        check.due("no 25th", x.marked(24, 0), -4);
        // 21 marks within one turn, the end of it among them: two turns are more than the log holds.
        x = Check.swift("seg 1;go until 0(" + "mark 1 ".repeat(10) + "play 0" + " mark 2".repeat(11) + ");");
        check.due("marks ahead", x.player(6), 10);
        x.tick(2);
        check.due("marks of a turn", x.player(6), 31);
        check.due("the first", x.marked(0, 1), 0);
        x.tick(1);
        check.due("marks of two turns", x.player(6), 52);
        check.due("12 are gone", x.marked(0, 0) * 10 + x.marked(8, 0), 22);
        check.due("then the next turn", x.marked(9, 0), 1);
        check.due("its clock", x.marked(18, 1), 2);
        check.due("the one behind", x.marked(19, 1), 3);
        check.due("the latest", x.marked(39, 0) * 10 + x.marked(39, 1), 13);
        // One tick at rate 64 goes through four turns of such a loop.
        x = Check.swift("seg 1;go until 0(mark 1 mark 2 mark 3 play 0);");
        x.set(6, 64);
        x.tick(2);
        check.due("marks of four turns", x.player(6), 3 + 4 * 3);
        check.due("clock of the fourth", x.marked(14, 1), 2);
        x.tick(3);
        check.due("marks of 16 turns", x.player(6), 3 + 16 * 3);
        check.due("the latest 40 begin with", x.marked(0, 0) * 10 + x.marked(1, 0), 31);
    }

    /** "BAD: i below 0, what; NONE: there are not so many." */
    private static void pagesThatAreNot() {
        PooledWaves x = Check.told("seg 1 2 3 4 5 6 7 8 9;go play 0;");
        for (int what = 0; what < 3; what++) {
            check.due("page(0, " + what + ") of none", x.page(0, what), -4);
            check.due("page(-1, " + what + ")", x.page(-1, what), -1);
            check.due("page(MIN, " + what + ")", x.page(MIN, what), -1);
            check.due("page(MAX, " + what + ")", x.page(MAX, what), -4);
        }
        x.set(10, 16);
        x.tick(1);
        check.due("page(1, 1) of two", x.page(1, 1), 1);
        check.due("page(1, 2) of two", x.page(1, 2), 3);
        check.due("page(2, 1) of two", x.page(2, 1), -4);
        check.due("page(2, 2) of two", x.page(2, 2), -4);
        check.due("page(0, 0) of none", x.page(0, 0), -4);
        x.tick(2);
        check.due("page(1, 0) of two", x.page(1, 0), 0);
        check.due("page(2, 0) of two", x.page(2, 0), -4);
        check.due("page(0, 1) of none", x.page(0, 1), -4);
        for (int what : new int[] {-1, 3, MIN, MAX}) {
            check.due("page(0, " + what + ")", x.page(0, what), -1);
        }
    }

    /** "The LATCH of a TRIGGER is on: whether it was (1, 0). BAD." */
    private static void triggersAre0To3() {
        PooledWaves x = new PooledWaves();
        for (int t = 0; t <= 3; t++) {
            check.due("latches ahead of " + t, x.player(9), t);
            check.due("trigger(" + t + ")", x.trigger(t), 0);
            check.due("trigger(" + t + ") once more", x.trigger(t), 1);
        }
        for (int t : new int[] {-1, 4, 32, -32, MIN, MAX}) {
            check.due("trigger(" + t + ")", x.trigger(t), -1);
        }
        check.due("latches", x.player(9), 4);
        x.again();
        check.due("latches anew", x.player(9), 0);
        for (int t = 3; t >= 0; t--) {
            check.due("trigger(" + t + ") anew", x.trigger(t), 0);
        }
    }

    /** A latch whose trigger no until waits for stays on; one alone is off by which an until is left. */
    private static void latchesWait() {
        for (int t = 0; t <= 3; t++) {
            PooledWaves x = Check.swift("seg 1;seg 2;go until " + t + "(play 0)play 1;");
            for (int other = 0; other <= 3; other++) {
                if (other != t) {
                    x.trigger(other);
                }
            }
            x.tick(20);
            check.due("others don't end until " + t, x.player(0), 1);
            check.due("they stay on", x.player(9), 3);
            x.trigger(t);
            x.tick(1);
            check.due("its own ends until " + t, x.player(0), 3);
            check.due("the others stay on", x.player(9), 3);
            check.due("its own is off", x.trigger(t), 0);
        }
    }

    // ---- to settle

    /** "behind the last ITEM it is OVER, PHASE 0". */
    private static void behindTheLastItem() {
        PooledWaves x = Check.swift("seg 1 2;go play 0;");
        x.set(6, 31);
        x.tick(2);
        check.due("phase 31 of 32", x.player(1), 31);
        check.due("not over", x.player(0), 0);
        x.tick(1);
        check.due("over", x.player(0), -4);
        check.due("phase of 62 less 32 is 0", x.player(1), 0);
        x = Check.swift("seg 1;go loop 1(loop 1(until 0(loop 1(play 0))));");
        x.trigger(0);
        x.tick(2);
        check.due("over behind four ends", x.player(0), -4);
        check.due("turns of the outer", x.turns(0), 1);
        check.due("turns of the inner", x.turns(3), 1);
    }

    /** "END of a LOOP: one TURN more: are all done, the next one, else the one behind the LOOP". */
    private static void turnsOfALoop() {
        for (int n : new int[] {1, 2, 9}) {
            PooledWaves x = Check.swift("seg 1;seg 2;go loop " + n + "(play 0)play 1;");
            x.tick(1);
            for (int k = 1; k <= n; k++) {
                check.due("turn " + k + " of " + n, x.tick(1), 1);
                check.due("turns done of " + n, x.turns(0), k);
                check.due("at", x.player(0), k < n ? 1 : 3);
            }
            check.due("behind " + n, x.tick(1), 2);
            check.due("turns stay", x.turns(0), n);
            check.due("over", x.player(0), -4);
            x.again();
            check.due("turns anew", x.turns(0), 0);
        }
        // Entered again its turns are 0; the greatest depth of loops.
        PooledWaves x = Check.swift("seg 1;go loop 2(loop 2(loop 2(loop 2(play 0))));");
        x.tick(1);
        for (int k = 1; k <= 16; k++) {
            check.due("not over ahead of " + k, x.player(0), 4);
            x.tick(1);
            check.due("innermost turns " + k, x.turns(3), k == 16 || k % 2 == 1 ? 2 - k % 2 : 0);
            check.due("outermost turns " + k, x.turns(0), k / 8);
        }
        check.due("over behind 16", x.player(0), -4);
    }

    /** "END of an UNTIL: if the LATCH of its TRIGGER is on, it is off then, the next one". */
    private static void theEndOfATurn() {
        PooledWaves x = Check.swift("seg 1 2 3;seg 9;go until 1(play 0)play 1;");
        x.tick(3);
        check.due("in the middle of a turn", x.player(1), 32);
        x.trigger(1);
        check.due("its last level", x.tick(1), 3);
        check.due("left at the end of the turn", x.player(0), 3);
        check.due("off then", x.player(9), 0);
        // A trigger that comes behind the end waits for the end of the turn that began.
        x = Check.swift("seg 1 2 3;seg 9;go until 1(play 0)play 1;");
        x.tick(4);
        check.due("the next turn has begun", x.player(1), 0);
        x.trigger(1);
        check.due("all of that turn", x.tick(2), 2);
        check.due("still on", x.player(9), 1);
        check.due("its last level", x.tick(1), 3);
        check.due("left", x.player(0), 3);
        // The same trigger for one in another: one latch leaves the inner one alone.
        x = Check.swift("seg 1;seg 2;go until 1(until 1(play 0)play 1);");
        x.trigger(1);
        x.tick(2);
        check.due("the inner one is left", x.player(0), 4);
        check.due("its latch is off", x.player(9), 0);
        x.tick(1);
        check.due("the outer one goes on", x.player(0), 2);
    }

    // ---- phase

    /** "as long as ... PHASE is 16 for each LEVEL of the SEGMENT or more". */
    private static void phaseAtTheEndOfASegment() {
        // 16 ticks at rate 1 are a level.
        PooledWaves x = Check.swift("seg 1;seg 2 3;go play 0 play 1;");
        x.set(6, 1);
        x.tick(1);
        for (int k = 1; k < 16; k++) {
            check.due("level at phase " + (k - 1), x.tick(1), 1);
            check.due("phase", x.player(1), k);
            check.due("at", x.player(0), 0);
        }
        check.due("level at phase 15", x.tick(1), 1);
        check.due("phase 16 is the next segment's 0", x.player(1), 0);
        check.due("at the next one", x.player(0), 1);
        check.due("its first level", x.tick(15), 2);
        check.due("phase 15", x.player(1), 15);
        check.due("still its first", x.tick(1), 2);
        check.due("its second", x.tick(1), 3);
        check.due("phase 17", x.player(1), 17);
        x.tick(14);
        check.due("phase 31", x.player(1), 31);
        x.tick(1);
        check.due("over at phase 32", x.player(0), -4);
        // The longest segment: 256 sixteenths.
        x = Check.swift("seg" + " 5".repeat(15) + " 6;seg 7;go play 0 play 1;");
        x.set(6, 51);
        x.tick(6);
        check.due("phase 255", x.player(1), 255);
        check.due("at", x.player(0), 0);
        x.set(6, 1);
        check.due("the last level at phase 255", x.tick(1), 6);
        check.due("at the next one", x.player(0), 1);
        check.due("phase 0", x.player(1), 0);
    }

    /** Rate 64 goes over up to four segments of one level at once. */
    private static void overManySegmentsAtOnce() {
        PooledWaves x = Check.swift("seg 1;seg 2;go" + " play 0 mark 1".repeat(5) + " play 1;");
        x.set(6, 63);
        x.tick(2);
        check.due("63 is three segments and 15", x.player(0), 6);
        check.due("phase", x.player(1), 15);
        check.due("marks", x.player(6), 3);
        x.set(6, 64);
        x.tick(1);
        check.due("over: 79 is four segments and 15", x.player(0), -4);
        check.due("phase 0", x.player(1), 0);
        check.due("all marks, each at that clock", x.player(6) * 10 + x.marked(4, 1), 53);
        x = Check.swift("seg 1;seg 2;go" + " play 0".repeat(4) + " play 1;");
        x.set(6, 64);
        x.tick(2);
        check.due("64 is four segments", x.player(0), 4);
        check.due("phase", x.player(1), 0);
        check.due("the fifth", x.tick(1), 2);
        check.due("over", x.player(0), -4);
    }

    /** The phase is kept as the segment, the rate, the mode, a turn change, and as a page lacks. */
    private static void phaseIsKeptOverAllChanges() {
        PooledWaves x = Check.swift("seg 1 2 3;go until 0(play 0);");
        x.set(6, 13);
        x.tick(1);
        int phase = 0;
        for (int k = 0; k < 40; k++) {
            x.tick(1);
            phase = (phase + 13 + k % 7) % 48;
            check.due("phase " + k, x.player(1), phase);
            x.set(6, 13 + (k + 1) % 7);
            x.set(7, k % 3);
            x.set(10, k % 17);
            check.due("phase stays " + k, x.player(1), phase);
        }
        x = Check.told("seg 1 2 3 4 5 6 7 8 9;go play 0;");
        x.set(10, 0);
        x.set(6, 50);
        x.tick(5);
        check.due("phase 150 is behind the end", x.player(0), -4);
        x.again();
        x.set(6, 43);
        x.set(9, 3);
        x.tick(7);
        check.due("phase 129", x.player(1), 129);
        check.due("lacks", x.player(5), 4);
        for (int k = 1; k <= 3; k++) {
            x.tick(1);
            check.due("its page lacks, phase stays", x.player(1), 129);
            check.due("lacks", x.player(5), 4 + k);
        }
        check.due("it came", x.tick(1), 9);
    }

    // ---- levels

    /** "HOLD a; MIX a times (16 less f) and b times f, by 16 (down); NEAR a, if f is below 8, else b." */
    private static void holdMixNear() {
        int[][] pairs = {{0, 99}, {99, 0}, {0, 0}, {99, 99}, {1, 2}, {2, 1}, {50, 51}};
        for (int[] pair : pairs) {
            for (int mode = 0; mode <= 2; mode++) {
                PooledWaves x = Check.swift("seg " + pair[0] + " " + pair[1] + ";go play 0;");
                x.set(6, 1);
                x.set(7, mode);
                x.tick(1);
                for (int f = 0; f < 16; f++) {
                    int mixed = (pair[0] * (16 - f) + pair[1] * f) / 16;
                    int want = mode == 0 ? pair[0] : mode == 1 ? mixed : f < 8 ? pair[0] : pair[1];
                    check.due("mode " + mode + " of " + pair[0] + ", " + pair[1] + " at " + f, x.tick(1), want);
                }
                check.due("mode " + mode + " at the second", x.tick(1), pair[1]);
            }
        }
    }

    /** "the next one b of the SEGMENT (of its last one b is a)". */
    private static void theLastLevelIsItsOwnNext() {
        for (int mode = 0; mode <= 2; mode++) {
            // Another level stands behind it in the pool, and another segment comes next.
            PooledWaves x = Check.swift("seg 10 20;seg 90;go play 0 play 1 play 0;");
            x.set(7, mode);
            x.tick(2);
            x.set(6, 1);
            for (int f = 0; f < 16; f++) {
                check.due("mode " + mode + ", last level at " + f, x.tick(1), 20);
            }
            for (int f = 0; f < 16; f++) {
                check.due("mode " + mode + ", one level at " + f, x.tick(1), 90);
            }
            // A segment that ends within another one's levels.
            x = Check.swift("seg 10 20 30;seg 10 20;go play 1;");
            x.set(7, mode);
            x.tick(2);
            x.set(6, 15);
            check.due("mode " + mode + ", at its end", x.tick(1), 20);
            check.due("mode " + mode + ", at its end and 15", x.tick(1), 20);
        }
    }

    // ---- pages

    /** "PLACE: that of LEVEL PHASE by 16 (down)"; "place p of THE POOL is in PAGE p by 8 (down)". */
    private static void placeAndPage() {
        PooledWaves x = Check.told("seg 1 2 3 4 5 6 7 8 9 10;go play 0;");
        x.set(10, 0);
        x.set(9, 9);
        x.set(6, 1);
        x.tick(11);
        for (int phase = 1; phase < 128; phase++) {
            check.due("phase", x.player(1), phase);
            check.due("place 7 at the most: page 0 alone, at phase " + phase, x.player(8), 0);
            x.tick(1);
        }
        check.due("phase 128", x.player(1), 128);
        check.due("place 8 is in page 1", x.page(0, 1), 1);
        check.due("it comes", x.page(0, 2), x.player(2) + 10);
        check.due("it lacks", x.tick(1), 8);
        check.due("phase stays", x.player(1), 128);
        // A segment that begins in the middle of a page.
        x = Check.told("seg 1 2 3 4 5 6 7;seg 8 9;go play 1;");
        x.set(10, 0);
        x.tick(1);
        check.due("place 7", x.page(0, 1), 0);
        check.due("one page", x.player(8), 1);
        x.tick(2);
        check.due("place 8", x.page(0, 1), 1);
    }

    /** "it LACKS (counted): OUT is LAST, and is LOGGED; PHASE, AT stay as they are". */
    private static void whatLacksIsTheLast() {
        PooledWaves x = Check.told("seg 1 2 3 4 5 6 7 8;seg 9;go play 0 mark 5 play 1;");
        x.set(10, 0);
        x.set(9, 9);
        x.tick(10);
        check.due("ten lacked", x.player(5), 10);
        check.due("last at first", x.player(3), 0);
        x.tick(8);
        check.due("all of the first segment", x.player(3), 8);
        check.due("at", x.player(0), 2);
        check.due("its mark was logged as it went on", x.marked(0, 1), 18);
        for (int k = 1; k <= 9; k++) {
            check.due("the last one", x.tick(1), 8);
            check.due("lacks", x.player(5), 10 + k);
            check.due("outs", x.player(4), 18 + k);
            check.due("logged", x.out(17 + k), 8);
            check.due("at stays", x.player(0), 2);
            check.due("phase stays", x.player(1), 0);
            check.due("one mark", x.player(6), 1);
        }
        check.due("it came", x.tick(1), 9);
        check.due("lacks", x.player(5), 19);
        check.due("over", x.player(0), -4);
    }

    /** "(OVER: nothing is OUT.)"; what was asked for comes all the same. */
    private static void whenItIsOver() {
        PooledWaves x = Check.told("seg 1 2 3 4 5 6 7 8 9;go play 0;");
        x.set(10, 0);
        x.set(9, 0);
        x.tick(7);
        check.due("phase", x.player(1), 96);
        x.set(10, 1);
        x.set(9, 9);
        x.tick(1);
        check.due("page 1 is under way", x.page(0, 1), 1);
        check.due("it comes at", x.page(0, 2), 18);
        x.set(6, 64);
        check.due("the last that is out", x.tick(1), 8);
        check.due("over", x.player(0), -4);
        check.due("outs", x.player(4), 9);
        check.due("last", x.tick(8), 8);
        check.due("not yet", x.player(8), 1);
        check.due("cache", x.player(7), 1);
        x.tick(1);
        check.due("clock", x.player(2), 18);
        check.due("it came", x.player(8), 0);
        check.due("into the cache, as the latest", x.page(1, 0), 1);
        check.due("nothing more was out", x.player(4), 9);
        check.due("nothing lacked", x.player(5), 1);
        x.tick(30);
        check.due("the clock goes on", x.player(2), 48);
        check.due("nothing is asked for", x.player(8), 0);
        check.due("no out more", x.out(9), -4);
    }

    // ---- promises 20 and 21

    /** "It begins again: ANEW, but IMAGES stay: AT (NONE: it is OVER)." */
    private static void againFromAnywhere() {
        check.due("again() of nothing", new PooledWaves().again(), -4);
        check.due("again() of marks", Check.told("go mark 1;").again(), -4);
        PooledWaves x = Check.swift("seg 1 2;seg 3 4 5 6 7 8 9 1;go mark 1 mark 2 loop 2(play 0 until 3(play 1));");
        x.set(6, 60);
        x.set(7, 2);
        x.tick(17);
        x.trigger(3);
        x.trigger(1);
        x.keep(1);
        check.due("again()", x.again(), 3);
        int[] player = {3, 0, 0, 0, 0, 0, 2, 0, 0, 0};
        for (int what = 0; what < player.length; what++) {
            check.due("player " + what, x.player(what), player[what]);
        }
        int[] rules = {60, 2, 6, 0, 16};
        for (int what = 6; what <= 10; what++) {
            check.due("rule " + what + " stays", x.rule(what), rules[what - 6]);
        }
        check.due("turns", x.turns(2), 0);
        check.due("no out", x.out(0), -4);
        check.due("marks are logged anew", x.marked(1, 0) * 10 + x.marked(1, 1), 20);
        check.due("no third mark", x.marked(2, 0), -4);
        for (int what = 0; what < 3; what++) {
            check.due("no page, " + what, x.page(0, what), -4);
        }
        check.due("images stay", x.count(0), 1);
        check.due("again() twice", x.again(), 3);
        check.due("two marks", x.player(6), 2);
        check.due("the image is as it was", x.back(1), 17);
    }

    /** "By a seed n (1 to 8) SEGMENTS ... BAD." */
    private static void drawsOfAWrongNumber() {
        PooledWaves x = Check.told("seg 1;go play 0;");
        for (int n : new int[] {0, 9, -1, MIN, MAX}) {
            for (int seed : new int[] {0, 1, -1, MIN, MAX}) {
                check.due("draw(" + seed + ", " + n + ")", x.draw(seed, n), -1);
            }
        }
        check.due("what was told stays", x.rule(4), 1);
        for (int n = 1; n <= 8; n++) {
            check.due("draw(0, " + n + ")", x.draw(0, n), x.rule(4));
            check.due("its segments", x.rule(0), n);
        }
    }

    private static void drawsAtTheirEdges() {
        for (int n = 1; n <= 8; n++) {
            for (int seed : new int[] {0, 1, -1, MIN, MAX, MIN + 1, MAX - 1, 65535, 65536}) {
                asInTheModel(seed, n);
            }
        }
        // 21 items, the most there can be, with a fifth opening for which nothing is got; 16, the fewest, with seven
        // ends where nothing is open.
        asInTheModel(3, 1);
        check.due("the most items", new PooledWaves().draw(3, 1), 21);
        asInTheModel(21, 1);
        check.due("the fewest items", new PooledWaves().draw(21, 1), 16);
        // As great a pool as a draw has.
        asInTheModel(2147139738, 8);
        PooledWaves x = new PooledWaves();
        x.draw(2147139738, 8);
        check.due("levels of all", x.rule(2), 120);
        check.due("one is shared", x.rule(1), 119);
        int deepest = 0;
        for (int seed = 0; seed < 200; seed++) {
            asInTheModel(seed, seed % 8 + 1);
            x = new PooledWaves();
            x.draw(seed, 1);
            for (int i = 0; i < x.rule(4); i++) {
                deepest = Math.max(deepest, x.item(i, 3));
            }
        }
        check.due("the greatest depth", deepest, 4);
    }

    private static void asInTheModel(int seed, int n) {
        PooledWaves x = new PooledWaves();
        PlainModel m = new PlainModel();
        String of = " of draw(" + seed + ", " + n + ")";
        check.due("items" + of, x.draw(seed, n), m.draw(seed, n));
        for (int what = 0; what <= 5; what++) {
            check.due("rule " + what + of, x.rule(what), m.rule(what));
        }
        for (int p = 0; p < x.rule(1); p++) {
            check.due("level " + p + of, x.level(p), m.level(p));
        }
        for (int s = 0; s < n; s++) {
            for (int what = 0; what < 3; what++) {
                check.due("segment " + s + ", " + what + of, x.segment(s, what), m.segment(s, what));
            }
        }
        for (int i = 0; i < x.rule(4); i++) {
            for (int what = 0; what < 4; what++) {
                check.due("item " + i + ", " + what + of, x.item(i, what), m.item(i, what));
            }
        }
        check.due("at" + of, x.player(0), m.player(0));
        check.due("marks" + of, x.player(6), m.player(6));
    }
}
