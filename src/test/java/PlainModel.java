import java.util.ArrayList;
import java.util.Arrays;
import java.util.LinkedHashMap;
import java.util.List;
import java.util.Map;

/**
 * The document written out a second time, as plainly as the Java library allows and in other ways than
 * the program's: random runs of calls are answered by both.
 */
final class PlainModel {
    static final class Fault extends Exception {
        private static final long serialVersionUID = 1L;
        final int kind;
        final int place;

        Fault(int kind, int place) {
            this.kind = kind;
            this.place = place;
        }
    }

    static final class Item {
        int kind;
        int number;
        int partner = -4;
        int depth;
    }

    static final class Wave {
        int at = -1;
        int phase;
        Map<Integer, Integer> turns = new LinkedHashMap<>();
        boolean[] latches = new boolean[4];
        List<int[]> marks = new ArrayList<>();
        List<Integer> outs = new ArrayList<>();
        List<Integer> cache = new ArrayList<>();
        List<int[]> asked = new ArrayList<>();
        int clock;
        int last;
        int lacks;
        int[] settings = {16, 0, 3, 1, 4};

        Wave copy() {
            Wave w = new Wave();
            w.at = at;
            w.phase = phase;
            w.turns = new LinkedHashMap<>(turns);
            w.latches = latches.clone();
            w.marks = new ArrayList<>(marks);
            w.outs = new ArrayList<>(outs);
            w.cache = new ArrayList<>(cache);
            w.asked = new ArrayList<>(asked);
            w.clock = clock;
            w.last = last;
            w.lacks = lacks;
            w.settings = settings.clone();
            return w;
        }
    }

    StringBuilder tape = new StringBuilder();
    int fault;
    List<Integer> pool = new ArrayList<>();
    List<List<Integer>> segments = new ArrayList<>();
    List<int[]> places = new ArrayList<>();
    List<Item> items = new ArrayList<>();
    Wave wave = new Wave();
    Wave[] images = new Wave[2];
    long[][] cells = new long[4][];
    int[] lanes = new int[4];
    int torn;

    // ---- the text

    int feed(int c) {
        if (c < 0 || c > 127) {
            return -1;
        }
        if (tape.length() == 300) {
            return -3;
        }
        tape.append((char) c);
        return tape.length();
    }

    int end(int n) {
        int had = tape.length();
        if (n < 0 || n > had) {
            return -1;
        }
        tape.setLength(n);
        return had;
    }

    private String source;
    private int spot;
    private String word;
    private int wordAt;
    private List<List<Integer>> newSegments;
    private List<Item> newItems;

    int text() {
        source = tape.toString();
        tape.setLength(0);
        spot = 0;
        newSegments = new ArrayList<>();
        newItems = new ArrayList<>();
        try {
            parse();
        } catch (Fault f) {
            fault = f.kind;
            return -10 - f.place;
        }
        fault = 0;
        take(newSegments, newItems);
        return items.size();
    }

    private void parse() throws Fault {
        read();
        while (word.equals("seg")) {
            if (newSegments.size() == 8) {
                throw new Fault(4, wordAt);
            }
            read();
            List<Integer> row = new ArrayList<>();
            do {
                if (!isNumber()) {
                    throw new Fault(2, wordAt);
                }
                if (row.size() == 16) {
                    throw new Fault(4, wordAt);
                }
                row.add(Integer.parseInt(word));
                read();
            } while (!word.equals(";"));
            newSegments.add(row);
            read();
        }
        need("go");
        read();
        parseItems(0);
        need(";");
        read();
        need("");
    }

    /** Answers whether there was a PLAY among them. */
    private boolean parseItems(int depth) throws Fault {
        boolean plays = false;
        while (List.of("play", "mark", "loop", "until").contains(word)) {
            int kind = List.of("play", "mark", "loop", "until").indexOf(word);
            room();
            Item item = new Item();
            item.kind = kind;
            item.depth = depth;
            read();
            if (!isNumber()) {
                throw new Fault(2, wordAt);
            }
            item.number = Integer.parseInt(word);
            int least = kind == 2 ? 1 : 0;
            int most = new int[] {newSegments.size() - 1, 9, 9, 3}[kind];
            if (item.number < least || item.number > most) {
                throw new Fault(3, wordAt);
            }
            newItems.add(item);
            int index = newItems.size() - 1;
            read();
            if (kind >= 2) {
                plays |= parseInner(item, index, depth);
            }
            plays |= kind == 0;
        }
        return plays;
    }

    private boolean parseInner(Item item, int index, int depth) throws Fault {
        need("(");
        if (depth == 4) {
            throw new Fault(5, wordAt);
        }
        read();
        boolean inner = parseItems(depth + 1);
        need(")");
        room();
        if (!inner) {
            throw new Fault(6, wordAt);
        }
        Item end = new Item();
        end.kind = 4;
        end.number = item.number;
        end.partner = index;
        end.depth = depth;
        item.partner = newItems.size();
        newItems.add(end);
        read();
        return true;
    }

    private void room() throws Fault {
        if (newItems.size() == 24) {
            throw new Fault(4, wordAt);
        }
    }

    private void need(String w) throws Fault {
        if (!word.equals(w)) {
            throw new Fault(2, wordAt);
        }
    }

    private boolean isNumber() {
        return word.matches("[0-9]+");
    }

    private void read() throws Fault {
        String rest = source.substring(spot);
        int blanks = 0;
        while (blanks < rest.length() && rest.charAt(blanks) == ' ') {
            blanks++;
        }
        rest = rest.substring(blanks);
        wordAt = spot + blanks;
        java.util.regex.Matcher m = java.util.regex.Pattern.compile("[a-z]+|[0-9]+|[();]").matcher(rest);
        if (rest.isEmpty()) {
            word = "";
        } else if (m.lookingAt() && !m.group().matches("[0-9]{3,}")) {
            word = m.group();
        } else {
            throw new Fault(1, wordAt);
        }
        spot = wordAt + word.length();
    }

    private void take(List<List<Integer>> told, List<Item> program) {
        segments = told;
        items = program;
        pool = new ArrayList<>();
        places = new ArrayList<>();
        for (List<Integer> row : told) {
            int place = java.util.Collections.indexOfSubList(pool, row);
            int had = pool.size();
            if (place < 0) {
                int common = Math.min(had, row.size());
                while (!pool.subList(had - common, had).equals(row.subList(0, common))) {
                    common--;
                }
                place = had - common;
                pool.addAll(row.subList(common, row.size()));
            }
            places.add(new int[] {place, row.size(), pool.size() - had});
        }
        images = new Wave[2];
        anew();
    }

    // ---- what is told

    int rule(int what) {
        if (what >= 6 && what <= 10) {
            return wave.settings[what - 6];
        }
        switch (what) {
            case 0: return segments.size();
            case 1: return pool.size();
            case 2: return segments.stream().mapToInt(List::size).sum();
            case 3: return (int) places.stream().filter(p -> p[2] == 0).count();
            case 4: return items.size();
            case 5: return pool.size() / 8 + (pool.size() % 8 > 0 ? 1 : 0);
            default: return -1;
        }
    }

    int level(int p) {
        return p < 0 ? -1 : p >= pool.size() ? -4 : pool.get(p);
    }

    int segment(int s, int what) {
        return s < 0 || s >= places.size() || what < 0 || what > 2 ? -1 : places.get(s)[what];
    }

    int item(int i, int what) {
        if (i < 0 || i >= items.size() || what < 0 || what > 3) {
            return -1;
        }
        Item it = items.get(i);
        return new int[] {it.kind, it.number, it.partner, it.depth}[what];
    }

    int plain(int i) {
        if (i < 0 || i > 9999) {
            return -1;
        }
        Wave w = fresh();
        for (int k = 0; k < i && w.at >= 0; k++) {
            goOn(w, 16);
        }
        return w.at < 0 ? -4 : levelNow(w, 0);
    }

    int whole() {
        if (items.stream().anyMatch(it -> it.kind == 3)) {
            return -4;
        }
        Wave w = fresh();
        int n = 0;
        while (w.at >= 0) {
            goOn(w, 16);
            n++;
        }
        return n;
    }

    private Wave fresh() {
        Wave w = new Wave();
        settle(w, 0);
        return w;
    }

    // ---- the player

    private void anew() {
        Wave w = new Wave();
        w.settings = wave.settings;
        wave = w;
        settle(w, 0);
    }

    private void settle(Wave w, int from) {
        int i = from;
        while (true) {
            if (i >= items.size()) {
                w.at = -1;
                w.phase = 0;
                return;
            }
            Item it = items.get(i);
            if (it.kind == 0) {
                w.at = i;
                return;
            } else if (it.kind == 1) {
                w.marks.add(new int[] {it.number, w.clock});
                i++;
            } else if (it.kind == 2) {
                w.turns.put(i, 0);
                i++;
            } else if (it.kind == 3) {
                i++;
            } else if (items.get(it.partner).kind == 2) {
                int done = w.turns.merge(it.partner, 1, Integer::sum);
                i = done == it.number ? i + 1 : it.partner + 1;
            } else {
                boolean on = w.latches[it.number];
                w.latches[it.number] = false;
                i = on ? i + 1 : it.partner + 1;
            }
        }
    }

    private List<Integer> rowOf(Wave w) {
        return segments.get(items.get(w.at).number);
    }

    private int pageNow(Wave w) {
        return (places.get(items.get(w.at).number)[0] + w.phase / 16) / 8;
    }

    private int levelNow(Wave w, int mode) {
        List<Integer> row = rowOf(w);
        int i = w.phase / 16;
        int a = row.get(i);
        int b = row.get(Math.min(i + 1, row.size() - 1));
        int f = w.phase % 16;
        return mode == 0 ? a : mode == 1 ? (a * (16 - f) + b * f) / 16 : f < 8 ? a : b;
    }

    private void goOn(Wave w, int rate) {
        w.phase += rate;
        while (w.at >= 0 && w.phase >= 16 * rowOf(w).size()) {
            w.phase -= 16 * rowOf(w).size();
            settle(w, w.at + 1);
        }
    }

    private void tickOnce() {
        wave.clock++;
        List<int[]> stay = new ArrayList<>();
        for (int[] a : wave.asked) {
            if (a[1] > wave.clock) {
                stay.add(a);
                continue;
            }
            if (wave.cache.size() == wave.settings[2]) {
                wave.cache.remove(0);
            }
            wave.cache.add(a[0]);
        }
        wave.asked = stay;
        if (wave.at >= 0) {
            Integer page = pageNow(wave);
            if (wave.cache.remove(page)) {
                wave.cache.add(page);
                wave.last = levelNow(wave, wave.settings[1]);
                wave.outs.add(wave.last);
                goOn(wave, wave.settings[0]);
            } else {
                wave.lacks++;
                wave.outs.add(wave.last);
            }
        }
        Wave copy = wave.copy();
        for (int k = 0; k <= wave.settings[4] && copy.at >= 0; k++) {
            int page = pageNow(copy);
            if (!wave.cache.contains(page) && wave.asked.stream().noneMatch(a -> a[0] == page)) {
                wave.asked.add(new int[] {page, wave.clock + 1 + wave.settings[3]});
            }
            goOn(copy, wave.settings[0]);
        }
    }

    int player(int what) {
        if (what < 0 || what > 9) {
            return -1;
        }
        int on = 0;
        for (boolean b : wave.latches) {
            on += b ? 1 : 0;
        }
        return new int[] {wave.at < 0 ? -4 : wave.at, wave.phase, wave.clock, wave.last, wave.outs.size(), wave.lacks,
            wave.marks.size(), wave.cache.size(), wave.asked.size(), on}[what];
    }

    int turns(int i) {
        return i < 0 || i >= items.size() || items.get(i).kind != 2 ? -1 : wave.turns.getOrDefault(i, 0);
    }

    int tick(int n) {
        if (n < 1 || n > 30) {
            return -1;
        }
        for (int k = 0; k < n; k++) {
            tickOnce();
        }
        return wave.last;
    }

    int out(int i) {
        return i < 0 ? -1 : i >= 200 || i >= wave.outs.size() ? -4 : wave.outs.get(i);
    }

    int marked(int i, int what) {
        if (i < 0 || what < 0 || what > 1) {
            return -1;
        }
        List<int[]> latest = wave.marks.subList(Math.max(0, wave.marks.size() - 40), wave.marks.size());
        return i >= latest.size() ? -4 : latest.get(i)[what];
    }

    int page(int i, int what) {
        if (i < 0 || what < 0 || what > 2) {
            return -1;
        }
        if (what == 0) {
            return i >= wave.cache.size() ? -4 : wave.cache.get(i);
        }
        return i >= wave.asked.size() ? -4 : wave.asked.get(i)[what - 1];
    }

    int trigger(int t) {
        if (t < 0 || t > 3) {
            return -1;
        }
        int was = wave.latches[t] ? 1 : 0;
        wave.latches[t] = true;
        return was;
    }

    int set(int what, int v) {
        int[][] bounds = {{1, 64}, {0, 2}, {1, 6}, {0, 9}, {0, 16}};
        if (what < 6 || what > 10 || v < bounds[what - 6][0] || v > bounds[what - 6][1]) {
            return -1;
        }
        int was = wave.settings[what - 6];
        wave.settings[what - 6] = v;
        while (wave.cache.size() > wave.settings[2]) {
            wave.cache.remove(0);
        }
        return was;
    }

    int again() {
        anew();
        return wave.at < 0 ? -4 : wave.at;
    }

    private int seed;

    private int got() {
        seed = seed * 1103515245 + 12345;
        return (seed >> 16) & 32767;
    }

    int draw(int first, int n) {
        if (n < 1 || n > 8) {
            return -1;
        }
        seed = first;
        List<List<Integer>> rows = new ArrayList<>();
        for (int s = 0; s < n; s++) {
            Integer[] row = new Integer[got() % 16 + 1];
            for (int i = 0; i < row.length; i++) {
                row[i] = got() % 4;
            }
            rows.add(Arrays.asList(row));
        }
        List<Item> program = new ArrayList<>();
        ArrayList<Integer> open = new ArrayList<>();
        while (program.size() < 16 || !open.isEmpty()) {
            int g = got() % 8;
            g = program.size() >= 16 ? 7 : g;
            if (g < 3) {
                program.add(made(0, got() % n, open.size()));
            } else if (g == 3) {
                program.add(made(1, got() % 10, open.size()));
            } else if (g < 6) {
                if (open.size() < 4) {
                    program.add(made(g - 2, g == 4 ? got() % 3 + 1 : got() % 4, open.size()));
                    open.add(program.size() - 1);
                    program.add(made(0, got() % n, open.size()));
                }
            } else if (!open.isEmpty()) {
                int partner = open.remove(open.size() - 1);
                Item end = made(4, program.get(partner).number, open.size());
                end.partner = partner;
                program.get(partner).partner = program.size();
                program.add(end);
            }
        }
        take(rows, program);
        return items.size();
    }

    private static Item made(int kind, int number, int depth) {
        Item item = new Item();
        item.kind = kind;
        item.number = number;
        item.depth = depth;
        return item;
    }

    // ---- images, sheets

    int keep(int k) {
        if (k < 0 || k > 1) {
            return -1;
        }
        int was = images[k] == null ? 0 : 1;
        images[k] = wave.copy();
        return was;
    }

    int back(int k) {
        if (k < 0 || k > 1) {
            return -1;
        }
        if (images[k] == null) {
            return -2;
        }
        wave = images[k].copy();
        return wave.clock;
    }

    int sheet(int k, int lane, int n) {
        if (k < 0 || k > 3 || lane < 0 || lane > 1 || n > 30) {
            return -1;
        }
        if (n < 0) {
            return -14;
        }
        cells[k] = new long[n];
        lanes[k] = lane;
        return 1;
    }

    int lay(int k, int i, int v) {
        if (k < 0 || k > 3) {
            return -1;
        }
        if (cells[k] == null) {
            return -11;
        }
        if (i < 0 || i >= cells[k].length) {
            return -13;
        }
        cells[k][i] = lanes[k] == 0 ? (byte) v : v;
        return 1;
    }

    int run(int k, int lane, int f, int n) {
        if (k < 0 || k > 3 || lane < 0 || lane > 1 || n < 0 || n > 20) {
            return -1;
        }
        torn = 0;
        for (int j = 0; j < n; j++) {
            long at = (long) f + j;
            torn = cells[k] == null ? 1 : lanes[k] != lane ? 2 : at < 0 || at >= cells[k].length ? 3 : 0;
            if (torn != 0) {
                return j;
            }
            long v = cells[k][(int) at];
            if (v >= 0 && v <= 3) {
                wave.latches[(int) v] = true;
            }
            tickOnce();
        }
        return n;
    }

    int count(int what) {
        switch (what) {
            case 0: return (images[0] == null ? 0 : 1) + (images[1] == null ? 0 : 1);
            case 1: return tape.length();
            case 2: return cells[0] == null ? -4 : cells[0].length;
            default: return -1;
        }
    }
}
