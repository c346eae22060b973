import java.util.Map;
import java.util.Set;
import java.util.function.Consumer;

/** Counts the answers that are not the ones that are due, and ends the test by them. */
final class Check {
    private int wrong;

    void due(String call, long got, long want) {
        if (got != want) {
            wrong++;
            System.out.println(call + " answered " + got + ", due is " + want);
        }
    }

    /** All that can be asked is the same, but for the questions that are named. */
    void same(String title, Map<String, Integer> got, Map<String, Integer> want, Set<String> but) {
        due(title + ": questions", got.size(), want.size());
        for (Map.Entry<String, Integer> entry : want.entrySet()) {
            if (!but.contains(entry.getKey())) {
                due(title + ": " + entry.getKey(), got.getOrDefault(entry.getKey(), Integer.MIN_VALUE),
                    entry.getValue());
            }
        }
    }

    /** A text that is taken, and how many items it has. */
    void takes(String text, int items) {
        PooledWaves x = new PooledWaves();
        tell(x, "oh");
        due("text() of '" + text + "'", tell(x, text), items);
        due("fault() of '" + text + "'", x.fault(), 0);
        due("tape behind '" + text + "'", x.count(1), 0);
        due("items of '" + text + "'", x.rule(4), items);
    }

    /** A text that has a fault at a place. */
    void faulty(String text, int fault, int place) {
        PooledWaves x = new PooledWaves();
        due("text() of '" + text + "'", tell(x, text), -10 - place);
        due("fault() of '" + text + "'", x.fault(), fault);
        due("tape behind '" + text + "'", x.count(1), 0);
        due("items behind '" + text + "'", x.rule(4), 0);
    }

    void finish() {
        System.out.println(wrong == 0 ? "all answers are as due" : wrong + " answers are not as due");
        if (wrong != 0) {
            System.exit(1);
        }
    }

    static void feed(PooledWaves x, String text) {
        for (int i = 0; i < text.length(); i++) {
            x.feed(text.charAt(i));
        }
    }

    /** Feeds a text and has it told. */
    static int tell(PooledWaves x, String text) {
        feed(x, text);
        return x.text();
    }

    /** A new object upon which some calls were made. */
    static PooledWaves made(Consumer<PooledWaves> calls) {
        PooledWaves x = new PooledWaves();
        calls.accept(x);
        return x;
    }

    static PooledWaves told(String text) {
        PooledWaves x = new PooledWaves();
        tell(x, text);
        return x;
    }

    /** A new object whose pages come at the next tick, so that it lacks on the first one alone. */
    static PooledWaves swift(String text) {
        PooledWaves x = told(text);
        x.set(9, 0);
        x.set(8, 6);
        x.set(10, 16);
        return x;
    }
}
