import java.util.Random;

/** All promises: random runs of calls, each answered by the program and by the plain model. */
public final class RandomRunsTest {
    private static final int RUNS = 3000;
    private static final Check check = new Check();
    private static Random random;
    private static PooledWaves x;
    private static PlainModel m;
    private static int calls;
    private static String run;

    public static void main(String[] args) {
        for (int k = 0; k < RUNS; k++) {
            random = new Random(k);
            x = new PooledWaves();
            m = new PlainModel();
            run = "run " + k + ": ";
            calls = 0;
            while (calls < 512) {
                if (random.nextInt(40) == 0 || calls == 0) {
                    tellText();
                } else {
                    anyCall();
                }
            }
        }
        check.finish();
    }

    private static void due(String call, int got, int want) {
        calls++;
        check.due(run + "call " + calls + ": " + call, got, want);
    }

    private static int upTo(int n) {
        return random.nextInt(n + 1);
    }

    /** Mostly from -1 on to one above the greatest, seldom anything. */
    private static int near(int most) {
        int way = random.nextInt(60);
        return way == 0 ? random.nextInt() : way == 1 ? Integer.MAX_VALUE : way == 2 ? Integer.MIN_VALUE
            : way < 8 ? random.nextInt(most + 3) - 1 : upTo(most);
    }

    private static void tellText() {
        StringBuilder text = random.nextInt(5) == 0 ? wideText() : anyText();
        if (random.nextInt(4) == 0) {
            spoil(text);
        }
        if (calls + text.length() > 480) {
            anyCall();
            return;
        }
        for (int i = 0; i < text.length(); i++) {
            due("feed", x.feed(text.charAt(i)), m.feed(text.charAt(i)));
        }
        due("text() of " + text, x.text(), m.text());
        due("fault() of " + text, x.fault(), m.fault);
    }

    private static StringBuilder anyText() {
        StringBuilder text = new StringBuilder();
        int segments = random.nextInt(10) == 0 ? upTo(9) : 1 + upTo(3);
        int most = random.nextInt(3) == 0 ? 99 : 3;
        for (int s = 0; s < segments; s++) {
            text.append("seg");
            int n = random.nextInt(12) == 0 ? upTo(17) : 1 + upTo(12);
            for (int i = 0; i < n; i++) {
                text.append(' ').append(upTo(most));
            }
            text.append(';');
        }
        text.append("go ");
        items(text, 0, Math.max(1, segments), 1 + upTo(random.nextInt(4) == 0 ? 24 : 5));
        return text.append(';');
    }

    /** As many levels as the tape has room for, up to a few bytes more than it has. */
    private static StringBuilder wideText() {
        StringBuilder text = new StringBuilder();
        int segments = 4 + upTo(4);
        int longest = 8 + upTo(8);
        for (int s = 0; s < segments; s++) {
            text.append("seg");
            for (int i = longest - upTo(2); i > 0; i--) {
                text.append(upTo(9)).append(i > 1 ? " " : ";");
            }
        }
        text.append(random.nextBoolean() ? "go until0(" : "go loop9(");
        for (int k = upTo(22); k > 0 && text.length() < 288; k--) {
            text.append(random.nextInt(4) == 0 ? "mark" : "play").append(upTo(segments - 1));
        }
        return text.append("play0);");
    }

    private static void items(StringBuilder text, int depth, int segments, int n) {
        for (int k = 0; k < n; k++) {
            int way = random.nextInt(depth < 5 ? 8 : 5);
            if (way < 3) {
                text.append("play ").append(upTo(segments - 1)).append(' ');
            } else if (way < 5) {
                text.append("mark ").append(upTo(9));
            } else {
                text.append(way < 7 ? "loop " : "until ").append(way < 7 ? 1 + upTo(8) : upTo(3)).append('(');
                if (random.nextInt(12) != 0) {
                    text.append("play ").append(upTo(segments - 1)).append(' ');
                }
                items(text, depth + 1, segments, upTo(3));
                text.append(')');
            }
        }
    }

    private static void spoil(StringBuilder text) {
        String letters = "();. 0123456789segoplaymrkunti";
        for (int k = upTo(2); k >= 0; k--) {
            int at = random.nextInt(text.length());
            int way = random.nextInt(4);
            if (way == 0) {
                text.setCharAt(at, letters.charAt(random.nextInt(letters.length())));
            } else if (way == 1) {
                text.insert(at, letters.charAt(random.nextInt(letters.length())));
            } else if (way == 2 && text.length() > 1) {
                text.deleteCharAt(at);
            } else if (text.length() > 2) {
                text.setLength(1 + at);
            }
        }
    }

    private static void anyCall() {
        int way = random.nextInt(100);
        if (way < 30) {
            change();
        } else if (way < 45) {
            sheetCall();
        } else if (way < 75) {
            askPlayer();
        } else {
            askTold();
        }
    }

    private static void change() {
        int a;
        int b;
        switch (random.nextInt(30)) {
            case 0: a = near(127); due("feed(" + a + ")", x.feed(a), m.feed(a)); break;
            case 1: a = near(10); due("end(" + a + ")", x.end(a), m.end(a)); break;
            case 2: due("text()", x.text(), m.text()); break;
            case 3: due("again()", x.again(), m.again()); break;
            case 4:
                a = random.nextInt();
                b = near(8);
                if (random.nextInt(3) == 0) {
                    due("draw(" + a + ", " + b + ")", x.draw(a, b), m.draw(a, b));
                }
                break;
            case 5:
            case 6: a = near(1); due("keep(" + a + ")", x.keep(a), m.keep(a)); break;
            case 7:
            case 8: a = near(1); due("back(" + a + ")", x.back(a), m.back(a)); break;
            case 9:
            case 10:
            case 11:
            case 12: a = near(3); due("trigger(" + a + ")", x.trigger(a), m.trigger(a)); break;
            case 13:
            case 14:
            case 15:
            case 16:
                a = 6 + near(4);
                b = near(new int[] {64, 2, 6, 9, 16}[Math.floorMod(a - 6, 5)]);
                due("set(" + a + ", " + b + ")", x.set(a, b), m.set(a, b));
                break;
            default: a = near(30); due("tick(" + a + ")", x.tick(a), m.tick(a)); break;
        }
    }

    private static void sheetCall() {
        int k = near(3);
        int lane = near(1);
        int a;
        int b;
        switch (random.nextInt(8)) {
            case 0: a = near(30); due("sheet(" + k + ", " + lane + ", " + a + ")", x.sheet(k, lane, a),
                m.sheet(k, lane, a)); break;
            case 1:
            case 2:
            case 3: a = near(30); b = random.nextInt(3) == 0 ? random.nextInt() : random.nextInt(1024) - 512;
                b = random.nextBoolean() ? near(3) : b;
                due("lay(" + k + ", " + a + ", " + b + ")", x.lay(k, a, b), m.lay(k, a, b)); break;
            case 4:
            case 5: a = near(30); b = near(20); due("run(" + k + ", " + lane + ", " + a + ", " + b + ")",
                x.run(k, lane, a, b), m.run(k, lane, a, b)); break;
            case 6: due("torn()", x.torn(), m.torn); break;
            default: a = near(2); due("count(" + a + ")", x.count(a), m.count(a)); break;
        }
    }

    private static void askPlayer() {
        int a;
        int b;
        switch (random.nextInt(6)) {
            case 0: a = near(23); due("turns(" + a + ")", x.turns(a), m.turns(a)); break;
            case 1: a = near(210); due("out(" + a + ")", x.out(a), m.out(a)); break;
            case 2: a = near(40); b = near(1); due("marked(" + a + ", " + b + ")", x.marked(a, b), m.marked(a, b));
                break;
            case 3: a = near(5); b = near(2); due("page(" + a + ", " + b + ")", x.page(a, b), m.page(a, b)); break;
            default: a = near(9); due("player(" + a + ")", x.player(a), m.player(a)); break;
        }
    }

    private static void askTold() {
        int a;
        int b;
        switch (random.nextInt(8)) {
            case 0: a = near(10); due("rule(" + a + ")", x.rule(a), m.rule(a)); break;
            case 1: a = near(60); due("level(" + a + ")", x.level(a), m.level(a)); break;
            case 2: a = near(7); b = near(2); due("segment(" + a + ", " + b + ")", x.segment(a, b), m.segment(a, b));
                break;
            case 3:
            case 4: a = near(23); b = near(3); due("item(" + a + ", " + b + ")", x.item(a, b), m.item(a, b)); break;
            case 5: a = near(random.nextInt(20) == 0 ? 9999 : 200); due("plain(" + a + ")", x.plain(a), m.plain(a));
                break;
            case 6:
                if (random.nextInt(10) == 0) {
                    due("whole()", x.whole(), m.whole());
                }
                break;
            default: due("fault()", x.fault(), m.fault); break;
        }
    }
}
