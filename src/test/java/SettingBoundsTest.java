/** Promise 19, and what part 2 of the terms says of RATE, MODE, ROOM, LATENCY, AHEAD, the cache, what is asked for. */
public final class SettingBoundsTest {
    private static final int MIN = Integer.MIN_VALUE, MAX = Integer.MAX_VALUE;
    private static final int RATE = 6, MODE = 7, ROOM = 8, LATENCY = 9, AHEAD = 10;
    private static final int[] LEAST = {1, 0, 1, 0, 0}, MOST = {64, 2, 6, 9, 16}, FIRST = {16, 0, 3, 1, 4};
    private static final Check check = new Check();

    public static void main(String[] args) {
        leastAndMost();
        wrongNumbers();
        theySurviveAllButAnImage();
        rates();
        latencies();
        whatIsAskedComesWhenItWasTold();
        whatComesAtOnce();
        oneStaysUnderWay();
        aheadOfItself();
        aheadByRate();
        aheadWhereItIsOver();
        aheadThroughEnds();
        rooms();
        aFullCache();
        roomThatIsLess();
        roomThatIsMore();
        usedTheLongestAgo();
        check.finish();
    }

    // ---- the numbers

    private static void leastAndMost() {
        for (int what = RATE; what <= AHEAD; what++) {
            PooledWaves x = new PooledWaves();
            int i = what - RATE;
            check.due("rule(" + what + ") at first", x.rule(what), FIRST[i]);
            check.due("set(" + what + ") to the least", x.set(what, LEAST[i]), FIRST[i]);
            check.due("rule(" + what + ") of the least", x.rule(what), LEAST[i]);
            check.due("below the least", x.set(what, LEAST[i] - 1), -1);
            check.due("it stays", x.rule(what), LEAST[i]);
            check.due("set(" + what + ") to the most", x.set(what, MOST[i]), LEAST[i]);
            check.due("rule(" + what + ") of the most", x.rule(what), MOST[i]);
            check.due("above the most", x.set(what, MOST[i] + 1), -1);
            check.due("it stays", x.rule(what), MOST[i]);
            check.due("set(" + what + ") to what it is", x.set(what, MOST[i]), MOST[i]);
            int was = MOST[i];
            for (int v = LEAST[i]; v <= MOST[i]; v++) {
                check.due("set(" + what + ", " + v + ")", x.set(what, v), was);
                was = v;
            }
            for (int other = RATE; other <= AHEAD; other++) {
                check.due("rule(" + other + ") behind all of that", x.rule(other),
                    other == what ? MOST[i] : FIRST[other - RATE]);
            }
        }
    }

    private static void wrongNumbers() {
        PooledWaves x = new PooledWaves();
        for (int what : new int[] {5, 11, 0, 1, -1, 4, -6, MIN, MAX}) {
            check.due("set(" + what + ", 1)", x.set(what, 1), -1);
        }
        for (int what = RATE; what <= AHEAD; what++) {
            check.due("set(" + what + ", -1)", x.set(what, -1), -1);
            check.due("set(" + what + ", MIN)", x.set(what, MIN), -1);
            check.due("set(" + what + ", MAX)", x.set(what, MAX), -1);
            check.due("rule(" + what + ") stays", x.rule(what), FIRST[what - RATE]);
        }
    }

    /** "(RATE, MODE, ROOM, LATENCY, AHEAD stay.)"; an image brings them back. */
    private static void theySurviveAllButAnImage() {
        PooledWaves x = new PooledWaves();
        x.keep(0);
        for (int what = RATE; what <= AHEAD; what++) {
            x.set(what, MOST[what - RATE]);
        }
        x.again();
        settings("again()", x, MOST);
        check.due("back(0) to what it was at first", x.back(0), 0);
        settings("back(0)", x, FIRST);
        for (int what = RATE; what <= AHEAD; what++) {
            x.set(what, LEAST[what - RATE]);
        }
        Check.tell(x, "seg 1;go play 0;");
        settings("text()", x, LEAST);
        x.draw(9, 3);
        settings("draw()", x, LEAST);
        Check.tell(x, "oh");
        settings("a faulty text", x, LEAST);
    }

    private static void settings(String behind, PooledWaves x, int[] want) {
        for (int what = RATE; what <= AHEAD; what++) {
            check.due("rule(" + what + ") behind " + behind, x.rule(what), want[what - RATE]);
        }
    }

    private static void rates() {
        for (int rate : new int[] {1, 15, 16, 17, 63, 64}) {
            PooledWaves x = Check.swift("seg 1 2 3 4 5 6 7 8;go until 0(play 0);");
            x.set(RATE, rate);
            x.tick(1);
            for (int k = 0; k < 40; k++) {
                check.due("rate " + rate + ", level " + k, x.tick(1), rate * k % 128 / 16 + 1);
                check.due("rate " + rate + ", phase " + k, x.player(1), rate * (k + 1) % 128);
            }
        }
    }

    // ---- what is asked for

    /** "it comes at CLOCK and 1 and LATENCY"; "(that CLOCK or less)". */
    private static void latencies() {
        for (int latency = 0; latency <= 9; latency++) {
            PooledWaves x = Check.told("seg 5;go play 0;");
            x.set(LATENCY, latency);
            x.tick(1);
            check.due("asked for", x.page(0, 1), 0);
            check.due("comes, latency " + latency, x.page(0, 2), 2 + latency);
            for (int k = 0; k < latency; k++) {
                check.due("not yet, latency " + latency, x.tick(1), 0);
                check.due("under way", x.player(8), 1);
                check.due("not in the cache", x.player(7), 0);
            }
            check.due("it came, latency " + latency, x.tick(1), 5);
            check.due("clock", x.player(2), 2 + latency);
            check.due("not under way", x.player(8), 0);
            check.due("in the cache", x.player(7), 1);
            check.due("lacks", x.player(5), 1 + latency);
        }
    }

    /** "(... what is ASKED comes when it was told.)" */
    private static void whatIsAskedComesWhenItWasTold() {
        for (int latency : new int[] {0, 3, 9}) {
            PooledWaves x = Check.told("seg 5;go play 0;");
            x.set(LATENCY, 4);
            x.tick(1);
            x.set(LATENCY, latency);
            x.set(ROOM, 1);
            x.set(AHEAD, 0);
            x.set(RATE, 1);
            check.due("comes", x.page(0, 2), 6);
            x.tick(4);
            check.due("not yet", x.player(8), 1);
            check.due("comes still", x.page(0, 2), 6);
            check.due("it came", x.tick(1), 5);
        }
    }

    private static final String THREE = "seg 1 2 3 4 5 6 7 8;seg 11 12 13 14 15 16 17 18;seg 21;";

    /** "Those ASKED that come by then ..., by order as they were ASKED ...: as the latest used". */
    private static void whatComesAtOnce() {
        // Page 0 is asked for at 1, page 1 at 2, and both come at 7.
        PooledWaves x = Check.told(THREE + "go play 0 play 1 play 2;");
        x.set(LATENCY, 5);
        x.set(AHEAD, 0);
        x.tick(1);
        x.set(LATENCY, 4);
        x.set(AHEAD, 8);
        x.tick(1);
        check.due("page 0 comes", x.page(0, 2), 7);
        check.due("page 1 comes", x.page(1, 2), 7);
        PooledWaves y = Check.told(THREE + "go play 0 play 1 play 2;");
        y.set(LATENCY, 5);
        y.set(AHEAD, 8);
        y.set(ROOM, 1);
        x.tick(4);
        check.due("both are under way", x.player(8), 2);
        x.tick(1);
        check.due("both came", x.player(7), 2);
        check.due("page 0 is used then, so it is the latest", x.page(1, 0), 0);
        // With room for one the later asked one stays, and page 0 lacks.
        y.tick(7);
        check.due("one in the cache", y.player(7), 1);
        check.due("the one asked for behind", y.page(0, 0), 1);
        check.due("it lacks", y.player(5), 7);
        check.due("page 0 is asked for anew", y.page(0, 1), 0);
        check.due("and comes", y.page(0, 2), 13);
        // Asked for earlier, but it comes later.
        x = Check.told(THREE + "go play 0 play 1 play 2;");
        x.set(LATENCY, 9);
        x.set(AHEAD, 0);
        x.tick(1);
        x.set(LATENCY, 0);
        x.set(AHEAD, 16);
        x.tick(1);
        check.due("three under way", x.player(8), 3);
        x.tick(1);
        check.due("two came", x.player(7), 2);
        check.due("page 1", x.page(0, 0), 1);
        check.due("page 2 is the latest", x.page(1, 0), 2);
        check.due("page 0 is under way", x.page(0, 1), 0);
        check.due("and comes", x.page(0, 2), 11);
    }

    /** One that was asked for behind another stays under way as that one comes. */
    private static void oneStaysUnderWay() {
        PooledWaves x = Check.told(THREE + "go play 0 play 1 play 2;");
        x.set(LATENCY, 0);
        x.set(AHEAD, 0);
        x.tick(1);
        x.set(LATENCY, 6);
        x.set(AHEAD, 16);
        // Page 0 comes at 2; then pages 1, 2 are asked for, that come at 9.
        check.due("page 0 came", x.tick(1), 1);
        check.due("page 1", x.page(0, 1), 1);
        x = Check.told(THREE + "go play 0 play 1 play 2;");
        x.set(LATENCY, 0);
        x.set(AHEAD, 0);
        x.tick(1);
        x.set(LATENCY, 3);
        x.set(AHEAD, 9);
        x.tick(1);
        x.set(LATENCY, 9);
        x.set(AHEAD, 16);
        x.tick(1);
        check.due("page 1 is first", x.page(0, 1), 1);
        check.due("it comes", x.page(0, 2), 6);
        check.due("page 2 is behind", x.page(1, 1), 2);
        check.due("it comes", x.page(1, 2), 13);
        x.tick(3);
        check.due("page 1 came", x.player(7), 2);
        check.due("page 2 is the first now", x.page(0, 1), 2);
        check.due("it comes when it was told", x.page(0, 2), 13);
        check.due("no other", x.page(1, 1), -4);
        check.due("no other comes", x.page(1, 2), -4);
        x.tick(6);
        check.due("clock", x.player(2), 12);
        check.due("still under way", x.player(8), 1);
        x.tick(1);
        check.due("it came", x.player(7), 3);
        check.due("none is under way", x.player(8), 0);
    }

    /** "the PLACE as it is then, and AHEAD more". */
    private static void aheadOfItself() {
        for (int ahead = 0; ahead <= 16; ahead++) {
            PooledWaves x = Check.told("seg 1 2 3 4 5 6 7 8 9 10 11 12 13 14 15 16;seg 17;go play 0 play 1;");
            x.set(AHEAD, ahead);
            x.tick(1);
            int want = ahead < 8 ? 1 : ahead < 16 ? 2 : 3;
            check.due("asked for by ahead " + ahead, x.player(8), want);
            for (int i = 0; i < want; i++) {
                check.due("by order", x.page(i, 1), i);
                check.due("all come at once", x.page(i, 2), 3);
            }
        }
        // Ahead 0: as soon as the place is there, not sooner.
        PooledWaves x = Check.told("seg 1 2 3 4 5 6 7 8 9;go play 0;");
        x.set(AHEAD, 0);
        x.tick(9);
        check.due("seven levels were out", x.player(1), 112);
        check.due("page 1 is not asked for", x.player(8), 0);
        x.tick(1);
        check.due("its place is there", x.player(1), 128);
        check.due("page 1 is asked for", x.page(0, 1), 1);
    }

    /** "each as PHASE goes on by RATE". */
    private static void aheadByRate() {
        String text = "seg 1 2 3 4 5 6 7 8;seg 11 12 13 14 15 16 17 18;seg 21 22 23 24 25 26 27 28;"
            + "seg 31 32 33 34 35 36 37 38;go play 0 play 1 play 2 play 3;";
        // 16 places more at a rate r: the last is that of 16 r, so level r on.
        for (int rate : new int[] {1, 7, 8, 15, 16, 23, 24, 31}) {
            PooledWaves x = Check.told(text);
            x.set(AHEAD, 16);
            x.set(RATE, rate);
            x.tick(1);
            check.due("asked for by rate " + rate, x.player(8), rate / 8 + 1);
        }
        // Rate 64 goes over four levels: each page is met twice, and asked for once.
        PooledWaves x = Check.told(text);
        x.set(AHEAD, 5);
        x.set(RATE, 64);
        x.tick(1);
        check.due("asked for by rate 64", x.player(8), 3);
        // A page that is gone over between two places is not asked for: segment 5 is a level of page 2.
        text = "seg 1 2 3 4 5 6 7 8;seg 11 12 13 14 15 16 17 18;seg 21 22 23 24 25 26 27 28;seg 31;seg 12;seg 22;"
            + "go play 0 play 4 play 5 play 5 play 4 play 3;";
        x = Check.told(text);
        x.set(AHEAD, 3);
        x.set(RATE, 64);
        x.tick(1);
        check.due("three by rate 64", x.player(8), 3);
        check.due("page of segment 4", x.page(1, 1), 1);
        check.due("page of segment 3", x.page(2, 1), 3);
        x = Check.told(text);
        x.set(AHEAD, 10);
        x.tick(1);
        check.due("three by rate 16, ahead 10", x.player(8), 3);
        check.due("page of segment 4", x.page(1, 1), 1);
        check.due("page of segment 5", x.page(2, 1), 2);
    }

    /** "it ends where that is OVER". */
    private static void aheadWhereItIsOver() {
        PooledWaves x = Check.told("seg 1 2;seg 3 4 5 6 7 8 9 10;go play 0;");
        x.set(AHEAD, 16);
        x.tick(1);
        check.due("page 1 is never played", x.player(8), 1);
        check.due("page 0", x.page(0, 1), 0);
        x = new PooledWaves();
        x.set(AHEAD, 16);
        x.tick(30);
        check.due("nothing is asked for by nothing", x.player(8), 0);
        x = Check.told("seg 1;go play 0 mark 1 mark 2;");
        x.set(AHEAD, 16);
        x.tick(1);
        check.due("no mark of what is ahead", x.player(6), 0);
        check.due("it is not over", x.player(0), 0);
    }

    /** "(TURNS, LATCHES of the copy go on as it SETTLES: a LATCH by which it leaves an UNTIL is off there then)". */
    private static void aheadThroughEnds() {
        String segs = "seg 1;seg 2 3 4 5 6 7 8 9;seg 10 11 12 13 14 15 16;";
        // Place 0 is page 0, place 1 on to 8 pages 0 and 1, place 9 on page 1; a loop of n turns takes n places.
        for (int n = 1; n <= 9; n++) {
            PooledWaves x = Check.told(segs + "go loop " + n + "(play 0)play 2;");
            x.set(AHEAD, n - 1);
            x.tick(1);
            check.due("all turns of " + n, x.player(8), 1);
            x.set(AHEAD, n);
            x.tick(1);
            check.due("and what is behind them", x.player(8), 2);
            check.due("turns are as they were", x.turns(0), 0);
        }
        // Two untils of one trigger: the copy leaves the first one alone.
        PooledWaves x = Check.told(segs + "go until 2(play 0)until 2(play 0)play 2;");
        x.set(AHEAD, 16);
        x.trigger(2);
        x.tick(1);
        check.due("the second goes round ahead", x.player(8), 1);
        check.due("the latch is on", x.player(9), 1);
        check.due("at", x.player(0), 1);
        // Two triggers, both on: it leaves both; the latches themselves stay on.
        x = Check.told(segs + "go until 2(play 0)until 3(play 0)play 2;");
        x.set(AHEAD, 1);
        x.trigger(2);
        x.trigger(3);
        x.tick(1);
        check.due("not so far", x.player(8), 1);
        x.set(AHEAD, 2);
        x.tick(1);
        check.due("behind both", x.player(8), 2);
        check.due("the latches are on", x.player(9), 2);
    }

    // ---- the cache

    private static final String SEVEN = seven();

    /** Seven pages, 56 levels: 10 to 65. */
    private static String seven() {
        StringBuilder text = new StringBuilder();
        for (int i = 0; i < 56; i++) {
            text.append(i % 16 == 0 ? "seg " : " ").append(i + 10).append(i % 16 == 15 || i == 55 ? ";" : "");
        }
        return text + "go until 0(play 0 play 1 play 2 play 3);";
    }

    private static PooledWaves sevenPages(int room) {
        PooledWaves x = Check.told(SEVEN);
        x.set(ROOM, room);
        x.set(LATENCY, 0);
        x.set(AHEAD, 0);
        return x;
    }

    private static void cache(String when, PooledWaves x, int... want) {
        check.due("pages in the cache " + when, x.player(7), want.length);
        for (int i = 0; i < want.length; i++) {
            check.due("page " + i + " in the cache " + when, x.page(i, 0), want[i]);
        }
        check.due("no page more " + when, x.page(want.length, 0), -4);
    }

    /** "THE CACHE has ROOM (1 to 6 ...) PAGES"; "is it full, the one used the longest ago goes". */
    private static void rooms() {
        for (int room = 1; room <= 6; room++) {
            PooledWaves x = sevenPages(room);
            x.tick(1);
            for (int page = 0; page < 7; page++) {
                // Its place is asked for as it is there, and comes by the next tick: it never lacks but at first.
                x.tick(1);
                int n = Math.min(room, page + 1);
                int[] want = new int[n];
                for (int i = 0; i < n; i++) {
                    want[i] = page - n + 1 + i;
                }
                cache("of room " + room + " at page " + page, x, want);
                x.tick(7);
            }
            check.due("lacks of room " + room, x.player(5), 1);
            check.due("the first page again", x.tick(1), 10);
            check.due("as the latest", x.page(x.player(7) - 1, 0), 0);
        }
    }

    private static void aFullCache() {
        // Room 6 holds six of seven pages; the seventh comes in place of the one used the longest ago.
        PooledWaves x = sevenPages(6);
        x.tick(1);
        x.tick(30);
        x.tick(18);
        cache("of six, all full", x, 0, 1, 2, 3, 4, 5);
        check.due("page 6 is under way", x.page(0, 1), 6);
        check.due("page 6", x.tick(1), 58);
        cache("of six, one went", x, 1, 2, 3, 4, 5, 6);
        // Room 1: the page that is played is asked for, and comes in place of the one that was.
        x = sevenPages(1);
        x.tick(9);
        cache("of one", x, 0);
        check.due("page 1", x.tick(1), 18);
        cache("of one, the next", x, 1);
        // Room 1 with all asked for at once: the latest stays alone.
        x = sevenPages(1);
        x.set(AHEAD, 16);
        x.tick(1);
        check.due("three under way", x.player(8), 3);
        x.tick(1);
        cache("of one, three came", x, 2);
        check.due("two are asked for anew", x.player(8), 2);
        check.due("it lacks", x.player(5), 2);
    }

    /** "(By ROOM that is less those used the longest ago go ...)". */
    private static void roomThatIsLess() {
        for (int room = 1; room <= 6; room++) {
            PooledWaves x = sevenPages(6);
            x.tick(1);
            x.tick(30);
            x.tick(15);
            cache("ahead of room " + room, x, 0, 1, 2, 3, 4, 5);
            check.due("room " + room, x.set(ROOM, room), 6);
            int[] want = new int[room];
            for (int i = 0; i < room; i++) {
                want[i] = 6 - room + i;
            }
            cache("behind room " + room, x, want);
            check.due("it goes on, nothing lacks", x.tick(1), 55);
            check.due("lacks", x.player(5), 1);
            // Room that is more again brings nothing back.
            x.set(ROOM, 6);
            cache("behind room 6 again", x, want);
        }
        // What is under way comes all the same, into what room there is then.
        PooledWaves x = sevenPages(6);
        x.set(AHEAD, 16);
        x.set(LATENCY, 5);
        x.tick(1);
        check.due("three under way", x.player(8), 3);
        x.set(ROOM, 2);
        check.due("still three", x.player(8), 3);
        x.tick(6);
        cache("two of three", x, 1, 2);
        // A page that went is asked for anew.
        x = sevenPages(2);
        x.set(AHEAD, 8);
        x.tick(8);
        cache("of two", x, 1, 0);
        x.set(ROOM, 1);
        cache("of one", x, 0);
        x.tick(1);
        check.due("page 1 is asked for anew", x.page(0, 1), 1);
    }

    private static void roomThatIsMore() {
        PooledWaves x = sevenPages(2);
        x.tick(1);
        x.tick(16);
        cache("of two", x, 0, 1);
        check.due("room 3", x.set(ROOM, 3), 2);
        cache("of three", x, 0, 1);
        check.due("the same room", x.set(ROOM, 3), 3);
        cache("of three still", x, 0, 1);
        x.tick(1);
        cache("one more", x, 0, 1, 2);
        x.tick(8);
        cache("and it is full", x, 1, 2, 3);
    }

    /** "Else that PAGE is used": it is the latest then, wherever it was. */
    private static void usedTheLongestAgo() {
        PooledWaves x = Check.swift(THREE + "go until 0(play 0 play 1 play 2);");
        x.set(ROOM, 3);
        x.tick(1);
        check.due("all three came", x.tick(1), 1);
        cache("page 0 is used", x, 1, 2, 0);
        x.tick(7);
        cache("as long as it is used", x, 1, 2, 0);
        check.due("page 1 is used", x.tick(1), 11);
        cache("page 1 is the latest", x, 2, 0, 1);
        x.tick(7);
        check.due("page 2 is used", x.tick(1), 21);
        cache("page 2 is the latest", x, 0, 1, 2);
        check.due("the latest is used again: page 0", x.tick(1), 1);
        cache("page 0 is the latest", x, 1, 2, 0);
        // What only is looked at ahead is not used.
        x = Check.swift(THREE + "go until 0(play 0)play 1 play 2;");
        x.set(ROOM, 3);
        x.trigger(0);
        x.tick(2);
        cache("looked at ahead", x, 1, 2, 0);
        x.tick(5);
        cache("and not used", x, 1, 2, 0);
    }
}
