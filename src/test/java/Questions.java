import java.util.LinkedHashMap;
import java.util.Map;
import java.util.function.Consumer;

/**
 * All that can be asked of an object. What an answer of one call can't tell (latches, cells, images, bytes on the
 * tape) is found by calls that change it, so each part is asked of a new object that the same calls have made; so
 * no object is used for more than its 512 calls, either.
 */
final class Questions {
    private final Map<String, Integer> answers = new LinkedHashMap<>();
    private PooledWaves x;

    private Questions() {
    }

    static Map<String, Integer> answers(Consumer<PooledWaves> calls) {
        Questions q = new Questions();
        q.x = Check.made(calls);
        q.numbers();
        q.x = Check.made(calls);
        q.levels();
        q.x = Check.made(calls);
        q.items();
        q.x = Check.made(calls);
        q.unfolded();
        q.x = Check.made(calls);
        q.outs(0, 100);
        q.x = Check.made(calls);
        q.outs(101, 200);
        q.x = Check.made(calls);
        q.marks("");
        q.x = Check.made(calls);
        q.pages("");
        q.x = Check.made(calls);
        q.latches("");
        q.x = Check.made(calls);
        q.tape();
        q.x = Check.made(calls);
        q.goesOn();
        q.images(calls);
        q.cells(calls);
        return q.answers;
    }

    private void put(String question, int answer) {
        answers.put(question, answer);
    }

    private void numbers() {
        for (int what = -1; what <= 11; what++) {
            put("rule " + what, x.rule(what));
        }
        put("fault", x.fault());
        put("torn", x.torn());
        put("whole", x.whole());
        for (int what = -1; what <= 3; what++) {
            put("count " + what, x.count(what));
        }
        player("");
    }

    private void player(String when) {
        for (int what = -1; what <= 10; what++) {
            put(when + "player " + what, x.player(what));
        }
    }

    private void levels() {
        for (int p = 0; p <= 128; p++) {
            put("level " + p, x.level(p));
        }
        for (int s = 0; s <= 8; s++) {
            for (int what = 0; what < 3; what++) {
                put("segment " + s + ", " + what, x.segment(s, what));
            }
        }
    }

    private void items() {
        for (int i = 0; i <= 24; i++) {
            for (int what = 0; what < 4; what++) {
                put("item " + i + ", " + what, x.item(i, what));
            }
            put("turns " + i, x.turns(i));
        }
    }

    private void unfolded() {
        for (int i = 0; i < 100; i++) {
            put("plain " + i, x.plain(i));
        }
        put("plain 9999", x.plain(9999));
    }

    private void outs(int from, int to) {
        for (int i = from; i <= to; i++) {
            put("out " + i, x.out(i));
        }
    }

    private void marks(String when) {
        for (int i = 0; i <= 40; i++) {
            put(when + "marked " + i + ", 0", x.marked(i, 0));
            put(when + "marked " + i + ", 1", x.marked(i, 1));
        }
    }

    private void pages(String when) {
        for (int i = 0; i <= 16; i++) {
            for (int what = 0; what < 3; what++) {
                put(when + "page " + i + ", " + what, x.page(i, what));
            }
        }
    }

    private void latches(String when) {
        for (int t = 0; t < 4; t++) {
            put(when + "trigger " + t, x.trigger(t));
        }
    }

    private void tape() {
        put("text of the tape", x.text());
        put("fault of the tape", x.fault());
        for (int what = 0; what < 6; what++) {
            put("rule " + what + " of the tape", x.rule(what));
        }
        put("level 0 of the tape", x.level(0));
    }

    private void goesOn() {
        for (int k = 0; k < 8; k++) {
            put("level at tick " + k, x.tick(3));
            player("at tick " + k + ": ");
        }
        pages("later: ");
    }

    private void images(Consumer<PooledWaves> calls) {
        for (int k = 0; k < 2; k++) {
            String when = "image " + k + ": ";
            x = Check.made(calls);
            put(when + "back", x.back(k));
            player(when);
            for (int what = 6; what <= 10; what++) {
                put(when + "rule " + what, x.rule(what));
            }
            pages(when);
            latches(when);
            x = Check.made(calls);
            x.back(k);
            marks(when);
            for (int i = 0; i < 24; i++) {
                put(when + "turns " + i, x.turns(i));
            }
            x = Check.made(calls);
            x.back(k);
            for (int i = 0; i <= 60; i++) {
                put(when + "out " + i, x.out(i));
            }
            put(when + "out 199", x.out(199));
        }
    }

    private void cells(Consumer<PooledWaves> calls) {
        for (int k = 0; k < 4; k++) {
            for (int lane = 0; lane < 2; lane++) {
                x = Check.made(calls);
                cellsOf(k, lane, 0, 15);
                x = Check.made(calls);
                cellsOf(k, lane, 16, 30);
            }
        }
    }

    /** Begun again its first tick lacks or it is over, so no latch that a cell turns on is off behind that tick. */
    private void cellsOf(int k, int lane, int from, int to) {
        for (int i = from; i <= to; i++) {
            String when = "sheet " + k + " as " + lane + ", cell " + i + ": ";
            x.again();
            put(when + "run", x.run(k, lane, i, 1));
            put(when + "torn", x.torn());
            latches(when);
        }
    }
}
