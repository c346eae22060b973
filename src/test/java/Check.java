/** Counts the answers that are not the ones that are due, and ends the test by them. */
final class Check {
    private int wrong;

    void due(String call, long got, long want) {
        if (got != want) {
            wrong++;
            System.out.println(call + " answered " + got + ", due is " + want);
        }
    }

    void finish() {
        System.out.println(wrong == 0 ? "all answers are as due" : wrong + " answers are not as due");
        if (wrong != 0) {
            System.exit(1);
        }
    }

    static void feed(PooledWaves x, String text) {
        for (int i = 0; i < text.length(); i++) {
            x.feed(text.charAt(i));
        }
    }

    /** Feeds a text and has it told. */
    static int tell(PooledWaves x, String text) {
        feed(x, text);
        return x.text();
    }

    static PooledWaves told(String text) {
        PooledWaves x = new PooledWaves();
        tell(x, text);
        return x;
    }

    /** A new object whose pages come at the next tick, so that it lacks on the first one alone. */
    static PooledWaves swift(String text) {
        PooledWaves x = told(text);
        x.set(9, 0);
        x.set(8, 6);
        x.set(10, 16);
        return x;
    }
}
