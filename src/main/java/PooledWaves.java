/**
 * A player of waves from segments whose levels are kept in one shared pool,
 * driven by a program that is told letter by letter. Every row is made once,
 * with the object, and used again, so that no call takes room of its own.
 */
public final class PooledWaves {
    public static final int BAD = -1, STATE = -2, FULL = -3, NONE = -4;

    private static final int PLAY = 0, MARK = 1, LOOP = 2, UNTIL = 3, END = 4;

    private static final int MOST_SEGMENTS = 8, MOST_LEVELS = 16, MOST_ITEMS = 24, MOST_DEPTH = 4;
    private static final int MOST_BYTES = 300, MOST_OUTS = 200, MOST_MARKS = 40, MOST_CELLS = 30;
    private static final int POOL_ROOM = MOST_SEGMENTS * MOST_LEVELS;
    private static final int PAGE_LEVELS = 8, POOL_PAGES = POOL_ROOM / PAGE_LEVELS;
    private static final int TRIGGERS = 4, IMAGES = 2, SHEETS = 4;
    private static final int LAST_UNFOLDED = 9999, MOST_TICKS = 30, MOST_RUN = 20;

    private static final int RATE = 0, MODE = 1, ROOM = 2, LATENCY = 3, AHEAD = 4, SETTINGS = 5;
    /** The number by which rule() and set() call the first of the settings. */
    private static final int SETTING_BASE = 6;
    private static final int MOST_ROOM = 6;
    private static final int[] SETTING_AT_FIRST = {16, 0, 3, 1, 4};
    private static final int[] SETTING_LEAST = {1, 0, 1, 0, 0};
    private static final int[] SETTING_MOST = {64, 2, 6, 9, 16};

    private static final int NULL_FAULT = 1, CAST_FAULT = 2, INDEX_FAULT = 3, SIZE_FAULT = 4;
    private static final int FAULT_BASE = -10;

    private final Tape tape = new Tape();
    private final Reader reader = new Reader(tape);
    private final Drawer drawer = new Drawer();
    private final Player player = new Player();
    private final Player[] images = new Player[IMAGES];
    private final boolean[] kept = new boolean[IMAGES];
    private final Sheet[] sheets = new Sheet[SHEETS];
    private Program told = new Program();
    /** A text is read into this one, so that by a fault what was told stays. */
    private Program spare = new Program();
    private int runFault;

    public PooledWaves() {
        for (int k = 0; k < IMAGES; k++) {
            images[k] = new Player();
        }
        for (int k = 0; k < SHEETS; k++) {
            sheets[k] = new Sheet();
        }
    }

    // ---- the text

    public int feed(int c) {
        if (c < 0 || c > 127) {
            return BAD;
        }
        return tape.put(c) ? tape.length : FULL;
    }

    public int end(int n) {
        int had = tape.length;
        if (n < 0 || n > had) {
            return BAD;
        }
        tape.length = n;
        return had;
    }

    public int text() {
        Program fresh = spare;
        boolean taken = reader.readInto(fresh);
        tape.length = 0;
        if (!taken) {
            return FAULT_BASE - reader.faultPlace;
        }
        spare = told;
        told = fresh;
        beginNew();
        return told.items;
    }

    public int fault() {
        return reader.faultFound;
    }

    // ---- what is told

    public int rule(int what) {
        switch (what) {
            case 0: return told.pool.segments;
            case 1: return told.pool.size;
            case 2: return told.pool.levelsOfAll();
            case 3: return told.pool.segmentsFound();
            case 4: return told.items;
            case 5: return told.pool.pages();
            default: return isSetting(what) ? player.settings[what - SETTING_BASE] : BAD;
        }
    }

    public int level(int p) {
        if (p < 0) {
            return BAD;
        }
        return p < told.pool.size ? told.pool.levels[p] : NONE;
    }

    public int segment(int s, int what) {
        if (s < 0 || s >= told.pool.segments) {
            return BAD;
        }
        switch (what) {
            case 0: return told.pool.first[s];
            case 1: return told.pool.length[s];
            case 2: return told.pool.came[s];
            default: return BAD;
        }
    }

    public int item(int i, int what) {
        if (i < 0 || i >= told.items) {
            return BAD;
        }
        switch (what) {
            case 0: return told.kind[i];
            case 1: return told.number[i];
            case 2: return told.partner[i];
            case 3: return told.depth[i];
            default: return BAD;
        }
    }

    public int plain(int i) {
        if (i < 0 || i > LAST_UNFOLDED) {
            return BAD;
        }
        return told.unfoldedAt(i);
    }

    public int whole() {
        int sum = told.sums[0];
        return sum == Program.ENDLESS ? NONE : sum;
    }

    // ---- the player

    public int player(int what) {
        return player.valueOf(what);
    }

    public int turns(int i) {
        if (i < 0 || i >= told.items || told.kind[i] != LOOP) {
            return BAD;
        }
        return player.cursor.turnsDone[i];
    }

    public int tick(int n) {
        if (n < 1 || n > MOST_TICKS) {
            return BAD;
        }
        for (int k = 0; k < n; k++) {
            player.step(told);
        }
        return player.last;
    }

    public int out(int i) {
        if (i < 0) {
            return BAD;
        }
        return i < Math.min(player.outCount, MOST_OUTS) ? player.outs[i] : NONE;
    }

    public int marked(int i, int what) {
        if (i < 0 || what < 0 || what > 1) {
            return BAD;
        }
        if (i >= player.marks.held()) {
            return NONE;
        }
        int spot = player.marks.spotOf(i);
        return what == 0 ? player.marks.names[spot] : player.marks.clocks[spot];
    }

    public int page(int i, int what) {
        if (i < 0 || what < 0 || what > 2) {
            return BAD;
        }
        Pages pages = player.pages;
        if (i >= (what == 0 ? pages.cachedCount : pages.askedCount)) {
            return NONE;
        }
        switch (what) {
            case 0: return pages.cached[i];
            case 1: return pages.asked[i];
            default: return pages.comesAt[i];
        }
    }

    public int trigger(int t) {
        if (t < 0 || t >= TRIGGERS) {
            return BAD;
        }
        return player.cursor.latchOn(t) ? 1 : 0;
    }

    public int set(int what, int v) {
        if (!isSetting(what)) {
            return BAD;
        }
        int which = what - SETTING_BASE;
        if (v < SETTING_LEAST[which] || v > SETTING_MOST[which]) {
            return BAD;
        }
        int was = player.settings[which];
        player.settings[which] = v;
        player.pages.dropTo(player.settings[ROOM]);
        return was;
    }

    public int again() {
        player.begin(told);
        return player.cursor.at;
    }

    public int draw(int seed, int n) {
        if (n < 1 || n > MOST_SEGMENTS) {
            return BAD;
        }
        drawer.drawInto(told, seed, n);
        beginNew();
        return told.items;
    }

    // ---- images, sheets

    public int keep(int k) {
        if (k < 0 || k >= IMAGES) {
            return BAD;
        }
        int was = kept[k] ? 1 : 0;
        images[k].copyFrom(player);
        kept[k] = true;
        return was;
    }

    public int back(int k) {
        if (k < 0 || k >= IMAGES) {
            return BAD;
        }
        if (!kept[k]) {
            return STATE;
        }
        player.copyFrom(images[k]);
        return player.clock;
    }

    public int sheet(int k, int lane, int n) {
        if (!isSheet(k) || !isLane(lane) || n > MOST_CELLS) {
            return BAD;
        }
        if (n < 0) {
            return FAULT_BASE - SIZE_FAULT;
        }
        sheets[k].renew(lane, n);
        return 1;
    }

    public int lay(int k, int i, int v) {
        if (!isSheet(k)) {
            return BAD;
        }
        Sheet sheet = sheets[k];
        int found = sheet.faultAt(sheet.lane, i);
        if (found != 0) {
            return FAULT_BASE - found;
        }
        sheet.cells[i] = sheet.lane == Sheet.BYTES ? (byte) v : v;
        return 1;
    }

    public int run(int k, int lane, int f, int n) {
        if (!isSheet(k) || !isLane(lane) || n < 0 || n > MOST_RUN) {
            return BAD;
        }
        runFault = 0;
        for (int done = 0; done < n; done++) {
            runFault = sheets[k].faultAt(lane, f + done);
            if (runFault != 0) {
                return done;
            }
            latchByCell(sheets[k].cells[f + done]);
            player.step(told);
        }
        return n;
    }

    public int torn() {
        return runFault;
    }

    public int count(int what) {
        switch (what) {
            case 0: return (kept[0] ? 1 : 0) + (kept[1] ? 1 : 0);
            case 1: return tape.length;
            case 2: return sheets[0].size;
            default: return BAD;
        }
    }

    private void beginNew() {
        for (int k = 0; k < IMAGES; k++) {
            kept[k] = false;
        }
        player.begin(told);
    }

    private void latchByCell(long cell) {
        if (cell >= 0 && cell < TRIGGERS) {
            player.cursor.latchOn((int) cell);
        }
    }

    private static boolean isSetting(int what) {
        return what >= SETTING_BASE && what < SETTING_BASE + SETTINGS;
    }

    private static boolean isSheet(int k) {
        return k >= 0 && k < SHEETS;
    }

    private static boolean isLane(int lane) {
        return lane == Sheet.BYTES || lane == Sheet.LONGS;
    }

    /** The levels of all segments, common parts shared. */
    private static final class Pool {
        final int[] levels = new int[POOL_ROOM];
        final int[] first = new int[MOST_SEGMENTS];
        final int[] length = new int[MOST_SEGMENTS];
        final int[] came = new int[MOST_SEGMENTS];
        int size;
        int segments;

        void clear() {
            size = 0;
            segments = 0;
        }

        void addSegment(int[] row, int n) {
            if (segments >= MOST_SEGMENTS || n < 1 || n > row.length || size + n > levels.length) {
                return;
            }
            int place = firstPlace(row, n);
            int shared = Math.min(n, size - place);
            System.arraycopy(row, shared, levels, size, n - shared);
            size += n - shared;
            first[segments] = place;
            length[segments] = n;
            came[segments] = n - shared;
            segments++;
        }

        /** A whole match always lies below a match that the end cuts, so one search finds either. */
        private int firstPlace(int[] row, int n) {
            for (int place = 0; place < size; place++) {
                if (fitsAt(place, row, n)) {
                    return place;
                }
            }
            return size;
        }

        private boolean fitsAt(int place, int[] row, int n) {
            for (int i = 0; i < n && place + i < size; i++) {
                if (levels[place + i] != row[i]) {
                    return false;
                }
            }
            return true;
        }

        int levelOf(int segment, int i) {
            if (segment < 0 || segment >= segments || i < 0 || i >= length[segment]) {
                return 0;
            }
            return levels[first[segment] + i];
        }

        int levelsOfAll() {
            int sum = 0;
            for (int s = 0; s < segments; s++) {
                sum += length[s];
            }
            return sum;
        }

        int segmentsFound() {
            int found = 0;
            for (int s = 0; s < segments; s++) {
                if (came[s] == 0) {
                    found++;
                }
            }
            return found;
        }

        int pages() {
            return (size + PAGE_LEVELS - 1) / PAGE_LEVELS;
        }
    }

    /** The items as they are written, with the pool that they play from. */
    private static final class Program {
        static final int ENDLESS = 0x7fffffff;

        final Pool pool = new Pool();
        final int[] kind = new int[MOST_ITEMS];
        final int[] number = new int[MOST_ITEMS];
        final int[] partner = new int[MOST_ITEMS];
        final int[] depth = new int[MOST_ITEMS];
        /** Of a LOOP, an UNTIL: how many levels one turn of it comes to. */
        final int[] turnLength = new int[MOST_ITEMS];
        int items;
        final int[] openItems = new int[MOST_DEPTH];
        int open;
        /** By depth: how many levels were unfolded there since the latest opening. */
        final int[] sums = new int[MOST_DEPTH + 1];

        void clear() {
            pool.clear();
            items = 0;
            open = 0;
            sums[0] = 0;
        }

        boolean isFull() {
            return items >= MOST_ITEMS;
        }

        boolean isDeepest() {
            return open >= MOST_DEPTH;
        }

        void addPlay(int segment) {
            if (segment >= 0 && segment < pool.segments && !isFull()) {
                addItem(PLAY, segment);
                grow(pool.length[segment]);
            }
        }

        void addMark(int mark) {
            addItem(MARK, mark);
        }

        void addOpening(int openingKind, int n) {
            if (isFull() || isDeepest()) {
                return;
            }
            openItems[open] = items;
            addItem(openingKind, n);
            open++;
            sums[open] = 0;
        }

        void addEnd() {
            if (isFull() || open < 1) {
                return;
            }
            int opening = openItems[open - 1];
            turnLength[opening] = sums[open];
            open--;
            partner[opening] = items;
            addItem(END, number[opening]);
            partner[items - 1] = opening;
            grow(lengthOf(opening));
        }

        /** Each PLAY has a level or more, so what is open has one in it if it comes to any. */
        boolean openHasPlay() {
            return sums[open] > 0;
        }

        private void addItem(int itemKind, int n) {
            if (items >= MOST_ITEMS) {
                return;
            }
            kind[items] = itemKind;
            number[items] = n;
            partner[items] = NONE;
            depth[items] = open;
            items++;
        }

        private void grow(int more) {
            boolean endless = sums[open] == ENDLESS || more == ENDLESS;
            sums[open] = endless ? ENDLESS : sums[open] + more;
        }

        /** What all turns of a LOOP, an UNTIL come to while all latches are off. */
        private int lengthOf(int opening) {
            boolean endless = kind[opening] == UNTIL || turnLength[opening] == ENDLESS;
            return endless ? ENDLESS : number[opening] * turnLength[opening];
        }

        /** Goes past what lies before the i-th level and into the one turn that holds it. */
        int unfoldedAt(int i) {
            int left = i;
            int at = 0;
            for (int k = 0; k < MOST_ITEMS && at < items; k++) {
                int size = unfoldedLength(at);
                if (left >= size) {
                    left -= size;
                    at = behind(at);
                } else if (kind[at] == PLAY) {
                    return pool.levelOf(number[at], left);
                } else {
                    left = withinTurn(at, left);
                    at++;
                }
            }
            return NONE;
        }

        private int unfoldedLength(int at) {
            switch (kind[at]) {
                case PLAY: return segmentLength(at);
                case LOOP:
                case UNTIL: return lengthOf(at);
                default: return 0;
            }
        }

        private int behind(int at) {
            boolean opening = kind[at] == LOOP || kind[at] == UNTIL;
            return opening ? partner[at] + 1 : at + 1;
        }

        private int withinTurn(int opening, int left) {
            int turn = turnLength[opening];
            return turn > 0 && turn != ENDLESS ? left % turn : left;
        }

        int segmentLength(int at) {
            if (at < 0 || at >= items || kind[at] != PLAY) {
                return 0;
            }
            return pool.length[number[at]];
        }
    }

    /** The bytes that were fed, and the token of them that was read the latest. */
    private static final class Tape {
        static final int NAME = 0, NUMBER = 1, SIGN = 2, STOP = 3, NO_TOKEN = 4;
        private static final int MOST_FIGURES = 2;

        final byte[] bytes = new byte[MOST_BYTES];
        int length;
        int kind;
        int start;
        int behind;
        int number;

        boolean put(int c) {
            if (length >= MOST_BYTES) {
                return false;
            }
            bytes[length] = (byte) c;
            length++;
            return true;
        }

        void rewind() {
            behind = 0;
        }

        void readToken() {
            start = behind;
            while (start < length && bytes[start] == ' ') {
                start++;
            }
            behind = start;
            kind = start < length ? kindOf(bytes[start]) : STOP;
            if (kind == NAME || kind == NUMBER) {
                readOn();
            } else if (kind != STOP) {
                behind++;
            }
        }

        private void readOn() {
            number = 0;
            while (behind < length && kindOf(bytes[behind]) == kind) {
                // The value of a name, of a number that is too long is never used: the mask keeps it small.
                number = (number * 10 + bytes[behind] - '0') & 0xffff;
                behind++;
            }
            if (kind == NUMBER && behind - start > MOST_FIGURES) {
                kind = NO_TOKEN;
            }
        }

        private static int kindOf(byte c) {
            if (c >= 'a' && c <= 'z') {
                return NAME;
            }
            if (c >= '0' && c <= '9') {
                return NUMBER;
            }
            return c == '(' || c == ')' || c == ';' ? SIGN : NO_TOKEN;
        }

        boolean isSign(char sign) {
            return kind == SIGN && bytes[start] == sign;
        }

        boolean isName(String word) {
            if (kind != NAME || behind - start != word.length()) {
                return false;
            }
            for (int i = 0; i < word.length(); i++) {
                if (bytes[start + i] != word.charAt(i)) {
                    return false;
                }
            }
            return true;
        }
    }

    /** Takes the tokens of a text one by one: each is looked at whole before the next is read. */
    private static final class Reader {
        private static final int UNREADABLE = 1, MISPLACED = 2, OUT_OF_BOUNDS = 3, TOO_MANY = 4;
        private static final int TOO_DEEP = 5, WITHOUT_PLAY = 6;
        /** What may come next: a seg or the go, a level, an item, its number, its sign (, nothing more. */
        private static final int HEAD = 0, LEVEL = 1, ITEM = 2, ITEM_NUMBER = 3, OPENING = 4, NOTHING = 5;
        /** Each token but the last has a byte or more, so no text has more tokens. */
        private static final int MOST_TOKENS = MOST_BYTES + 1;

        final Tape tape;
        int faultFound;
        int faultPlace;
        private final int[] row = new int[MOST_LEVELS];
        private int rowLength;
        private int itemKind;
        private int itemNumber;
        private int state;

        Reader(Tape tape) {
            this.tape = tape;
        }

        /** Answers whether it was taken whole. */
        boolean readInto(Program program) {
            program.clear();
            tape.rewind();
            state = HEAD;
            for (int k = 0; k < MOST_TOKENS; k++) {
                tape.readToken();
                faultFound = tape.kind == Tape.NO_TOKEN ? UNREADABLE : take(program);
                if (faultFound != 0 || tape.kind == Tape.STOP) {
                    break;
                }
            }
            faultPlace = tape.start;
            return faultFound == 0;
        }

        /** Answers the fault, 0 if there is none; so do those below. */
        private int take(Program program) {
            switch (state) {
                case HEAD: return takeHead(program.pool);
                case LEVEL: return takeLevel(program.pool);
                case ITEM: return takeItem(program);
                case ITEM_NUMBER: return takeNumber(program);
                case OPENING: return takeOpening(program);
                default: return tape.kind == Tape.STOP ? 0 : MISPLACED;
            }
        }

        private int takeHead(Pool pool) {
            if (tape.isName("go")) {
                state = ITEM;
                return 0;
            }
            if (!tape.isName("seg")) {
                return MISPLACED;
            }
            if (pool.segments >= MOST_SEGMENTS) {
                return TOO_MANY;
            }
            rowLength = 0;
            state = LEVEL;
            return 0;
        }

        private int takeLevel(Pool pool) {
            if (rowLength > 0 && tape.isSign(';')) {
                pool.addSegment(row, rowLength);
                state = HEAD;
                return 0;
            }
            if (tape.kind != Tape.NUMBER) {
                return MISPLACED;
            }
            if (rowLength >= MOST_LEVELS) {
                return TOO_MANY;
            }
            row[rowLength] = tape.number;
            rowLength++;
            return 0;
        }

        private int takeItem(Program program) {
            if (tape.isSign(')')) {
                return takeEnd(program);
            }
            if (tape.isSign(';') && program.open == 0) {
                state = NOTHING;
                return 0;
            }
            itemKind = kindNamed();
            if (itemKind < 0) {
                return MISPLACED;
            }
            if (program.isFull()) {
                return TOO_MANY;
            }
            state = ITEM_NUMBER;
            return 0;
        }

        private int kindNamed() {
            if (tape.isName("play")) {
                return PLAY;
            }
            if (tape.isName("mark")) {
                return MARK;
            }
            if (tape.isName("loop")) {
                return LOOP;
            }
            return tape.isName("until") ? UNTIL : NONE;
        }

        private int takeEnd(Program program) {
            if (program.open == 0) {
                return MISPLACED;
            }
            if (program.isFull()) {
                return TOO_MANY;
            }
            if (!program.openHasPlay()) {
                return WITHOUT_PLAY;
            }
            program.addEnd();
            return 0;
        }

        private int takeNumber(Program program) {
            if (tape.kind != Tape.NUMBER) {
                return MISPLACED;
            }
            itemNumber = tape.number;
            if (itemNumber < (itemKind == LOOP ? 1 : 0) || itemNumber > greatest(program)) {
                return OUT_OF_BOUNDS;
            }
            state = ITEM;
            if (itemKind == PLAY) {
                program.addPlay(itemNumber);
            } else if (itemKind == MARK) {
                program.addMark(itemNumber);
            } else {
                state = OPENING;
            }
            return 0;
        }

        private int greatest(Program program) {
            switch (itemKind) {
                case PLAY: return program.pool.segments - 1;
                case UNTIL: return TRIGGERS - 1;
                default: return 9;
            }
        }

        private int takeOpening(Program program) {
            if (!tape.isSign('(')) {
                return MISPLACED;
            }
            if (program.isDeepest()) {
                return TOO_DEEP;
            }
            program.addOpening(itemKind, itemNumber);
            state = ITEM;
            return 0;
        }
    }

    /** Draws segments and a program by a seed. */
    private static final class Drawer {
        private static final int ENOUGH_ITEMS = 16;
        /** The low bits of the seed go round in far fewer steps: each choice comes long before this. */
        private static final int MOST_CHOICES = 1000000;

        private final int[] row = new int[MOST_LEVELS];
        private int segments;
        private int seed;

        void drawInto(Program program, int newSeed, int n) {
            seed = newSeed;
            segments = n;
            program.clear();
            drawSegments(program.pool);
            for (int k = 0; k < MOST_CHOICES && (!isEnough(program) || program.open > 0); k++) {
                int choice = got(8);
                drawItem(program, isEnough(program) ? 7 : choice);
            }
        }

        private int got(int modulo) {
            seed = seed * 1103515245 + 12345;
            int bits = (seed >>> 16) & 0x7fff;
            return modulo > 0 ? bits % modulo : 0;
        }

        private void drawSegments(Pool pool) {
            for (int s = 0; s < segments; s++) {
                int n = got(MOST_LEVELS) + 1;
                for (int i = 0; i < n; i++) {
                    row[i] = got(4);
                }
                pool.addSegment(row, n);
            }
        }

        private static boolean isEnough(Program program) {
            return program.items >= ENOUGH_ITEMS;
        }

        private void drawItem(Program program, int choice) {
            switch (choice) {
                case 0:
                case 1:
                case 2:
                    program.addPlay(got(segments));
                    break;
                case 3:
                    program.addMark(got(10));
                    break;
                case 4:
                case 5:
                    drawOpening(program, choice == 4 ? LOOP : UNTIL);
                    break;
                default:
                    program.addEnd();
                    break;
            }
        }

        private void drawOpening(Program program, int kind) {
            if (!program.isDeepest()) {
                program.addOpening(kind, kind == LOOP ? got(3) + 1 : got(TRIGGERS));
                program.addPlay(got(segments));
            }
        }
    }

    /** Where in the program it is: all that goes on as it plays, and that a look ahead needs a copy of. */
    private static final class Cursor {
        /** An item that is a PLAY, or NONE: it is over. */
        int at = NONE;
        int phase;
        final int[] turnsDone = new int[MOST_ITEMS];
        /** A bit for each trigger. */
        int latches;

        void clear() {
            at = NONE;
            phase = 0;
            latches = 0;
            for (int i = 0; i < MOST_ITEMS; i++) {
                turnsDone[i] = 0;
            }
        }

        void copyFrom(Cursor other) {
            at = other.at;
            phase = other.phase;
            latches = other.latches;
            System.arraycopy(other.turnsDone, 0, turnsDone, 0, MOST_ITEMS);
        }

        boolean isOver() {
            return at < 0;
        }

        /** Answers whether it was on. */
        boolean latchOn(int trigger) {
            int bit = 1 << trigger;
            boolean was = (latches & bit) != 0;
            latches |= bit;
            return was;
        }

        /** The page of the place that is to be played. */
        int pageOf(Program program) {
            int segment = segmentOf(program);
            return segment < 0 ? NONE : (program.pool.first[segment] + phase / 16) / PAGE_LEVELS;
        }

        private int segmentOf(Program program) {
            return at >= 0 && at < program.items ? program.number[at] : NONE;
        }

        int levelBy(int mode, Program program) {
            int segment = segmentOf(program);
            int i = phase / 16;
            int f = phase % 16;
            int a = program.pool.levelOf(segment, i);
            int b = i + 1 < program.segmentLength(at) ? program.pool.levelOf(segment, i + 1) : a;
            switch (mode) {
                case 0: return a;
                case 1: return (a * (16 - f) + b * f) / 16;
                default: return f < 8 ? a : b;
            }
        }

        /** No log: nothing is logged. Each turn takes 16 or more of a phase that is below 320. */
        void advance(Program program, int rate, MarkLog log, int clock) {
            phase += rate;
            for (int k = 0; k < 32 && !isOver(); k++) {
                int length = program.segmentLength(at) * 16;
                if (phase < length) {
                    return;
                }
                phase -= length;
                settle(program, at + 1, log, clock);
            }
        }

        /** Each LOOP, UNTIL has a PLAY in it: going back to one, at most once, it ends within two rounds. */
        void settle(Program program, int from, MarkLog log, int clock) {
            int i = from;
            for (int k = 0; k < 2 * MOST_ITEMS && i >= 0 && i < program.items; k++) {
                switch (program.kind[i]) {
                    case PLAY:
                        at = i;
                        return;
                    case MARK:
                        if (log != null) {
                            log.add(program.number[i], clock);
                        }
                        i++;
                        break;
                    case LOOP:
                        turnsDone[i] = 0;
                        i++;
                        break;
                    case UNTIL:
                        i++;
                        break;
                    default:
                        i = behindEnd(program, i);
                        break;
                }
            }
            at = NONE;
            phase = 0;
        }

        private int behindEnd(Program program, int i) {
            int opening = program.partner[i];
            if (opening < 0) {
                return i + 1;
            }
            boolean leaves = program.kind[opening] == LOOP
                ? turnIsLast(opening, program.number[opening])
                : latchOff(program.number[opening]);
            return leaves ? i + 1 : opening + 1;
        }

        private boolean turnIsLast(int loop, int turns) {
            turnsDone[loop]++;
            return turnsDone[loop] >= turns;
        }

        /** Answers whether it was on. */
        private boolean latchOff(int trigger) {
            int bit = 1 << trigger;
            boolean was = (latches & bit) != 0;
            latches &= ~bit;
            return was;
        }
    }

    /** The pages in the cache, that used the longest ago first, and those under way, by order. */
    private static final class Pages {
        final int[] cached = new int[MOST_ROOM];
        int cachedCount;
        final int[] asked = new int[POOL_PAGES];
        final int[] comesAt = new int[POOL_PAGES];
        int askedCount;

        void clear() {
            cachedCount = 0;
            askedCount = 0;
        }

        void copyFrom(Pages other) {
            cachedCount = other.cachedCount;
            askedCount = other.askedCount;
            System.arraycopy(other.cached, 0, cached, 0, MOST_ROOM);
            System.arraycopy(other.asked, 0, asked, 0, POOL_PAGES);
            System.arraycopy(other.comesAt, 0, comesAt, 0, POOL_PAGES);
        }

        /** Answers whether it is in the cache; it is the latest used then. */
        boolean use(int page) {
            int spot = spotOf(page, cached, cachedCount);
            if (spot < 0) {
                return false;
            }
            for (int i = spot; i + 1 < cachedCount; i++) {
                cached[i] = cached[i + 1];
            }
            cached[cachedCount - 1] = page;
            return true;
        }

        /** Of those in the cache the latest used stay, as many as told. */
        void dropTo(int most) {
            int gone = cachedCount - most;
            if (gone <= 0 || most < 0) {
                return;
            }
            for (int i = 0; i < most; i++) {
                cached[i] = cached[i + gone];
            }
            cachedCount = most;
        }

        void bringIn(int clock, int room) {
            int stay = 0;
            for (int i = 0; i < askedCount; i++) {
                if (comesAt[i] <= clock) {
                    addToCache(asked[i], room);
                } else {
                    asked[stay] = asked[i];
                    comesAt[stay] = comesAt[i];
                    stay++;
                }
            }
            askedCount = stay;
        }

        private void addToCache(int page, int room) {
            dropTo(room - 1);
            if (cachedCount < MOST_ROOM) {
                cached[cachedCount] = page;
                cachedCount++;
            }
        }

        void askFor(int page, int comes) {
            boolean known = spotOf(page, cached, cachedCount) >= 0 || spotOf(page, asked, askedCount) >= 0;
            if (!known && askedCount < POOL_PAGES) {
                asked[askedCount] = page;
                comesAt[askedCount] = comes;
                askedCount++;
            }
        }

        private static int spotOf(int page, int[] row, int n) {
            for (int i = 0; i < n; i++) {
                if (row[i] == page) {
                    return i;
                }
            }
            return NONE;
        }
    }

    /** The latest marks that were logged, in a ring. */
    private static final class MarkLog {
        final int[] names = new int[MOST_MARKS];
        final int[] clocks = new int[MOST_MARKS];
        int total;

        void clear() {
            total = 0;
        }

        void copyFrom(MarkLog other) {
            total = other.total;
            System.arraycopy(other.names, 0, names, 0, MOST_MARKS);
            System.arraycopy(other.clocks, 0, clocks, 0, MOST_MARKS);
        }

        void add(int mark, int clock) {
            int spot = Math.floorMod(total, MOST_MARKS);
            names[spot] = mark;
            clocks[spot] = clock;
            total++;
        }

        int held() {
            return Math.min(total, MOST_MARKS);
        }

        /** Where the i-th of those that are held stands, the earliest being the first. */
        int spotOf(int i) {
            return Math.floorMod(total - held() + i, MOST_MARKS);
        }
    }

    /** The player, all that an image keeps. */
    private static final class Player {
        final Cursor cursor = new Cursor();
        final Pages pages = new Pages();
        final MarkLog marks = new MarkLog();
        final int[] outs = new int[MOST_OUTS];
        final int[] settings = SETTING_AT_FIRST.clone();
        int outCount;
        int lackCount;
        int clock;
        int last;
        private final Cursor scout = new Cursor();

        void begin(Program program) {
            cursor.clear();
            pages.clear();
            marks.clear();
            outCount = 0;
            lackCount = 0;
            clock = 0;
            last = 0;
            cursor.settle(program, 0, marks, clock);
        }

        void copyFrom(Player other) {
            cursor.copyFrom(other.cursor);
            pages.copyFrom(other.pages);
            marks.copyFrom(other.marks);
            System.arraycopy(other.outs, 0, outs, 0, MOST_OUTS);
            System.arraycopy(other.settings, 0, settings, 0, SETTINGS);
            outCount = other.outCount;
            lackCount = other.lackCount;
            clock = other.clock;
            last = other.last;
        }

        int valueOf(int what) {
            switch (what) {
                case 0: return cursor.at;
                case 1: return cursor.phase;
                case 2: return clock;
                case 3: return last;
                case 4: return outCount;
                case 5: return lackCount;
                case 6: return marks.total;
                case 7: return pages.cachedCount;
                case 8: return pages.askedCount;
                case 9: return Integer.bitCount(cursor.latches);
                default: return BAD;
            }
        }

        /** One TICK. */
        void step(Program program) {
            clock++;
            pages.bringIn(clock, settings[ROOM]);
            if (!cursor.isOver()) {
                playOne(program);
            }
            askAhead(program);
        }

        private void playOne(Program program) {
            if (pages.use(cursor.pageOf(program))) {
                last = cursor.levelBy(settings[MODE], program);
                logOut();
                cursor.advance(program, settings[RATE], marks, clock);
            } else {
                lackCount++;
                logOut();
            }
        }

        private void logOut() {
            if (outCount < MOST_OUTS) {
                outs[outCount] = last;
            }
            outCount++;
        }

        private void askAhead(Program program) {
            // No page is both in the cache and under way: are they as many as there are, none is left to ask for.
            if (pages.cachedCount + pages.askedCount >= program.pool.pages()) {
                return;
            }
            int comes = clock + 1 + settings[LATENCY];
            scout.copyFrom(cursor);
            for (int k = 0; k <= settings[AHEAD] && !scout.isOver(); k++) {
                pages.askFor(scout.pageOf(program), comes);
                scout.advance(program, settings[RATE], null, clock);
            }
        }
    }

    /** A row of cells, or nothing. */
    private static final class Sheet {
        static final int BYTES = 0, LONGS = 1;

        final long[] cells = new long[MOST_CELLS];
        int lane;
        /** NONE: the sheet is nothing. */
        int size = NONE;

        void renew(int newLane, int n) {
            lane = newLane;
            size = n;
            for (int i = 0; i < MOST_CELLS; i++) {
                cells[i] = 0;
            }
        }

        /** What the machine would find at a cell that is taken as of a lane; 0: nothing. */
        int faultAt(int asLane, int i) {
            if (size < 0) {
                return NULL_FAULT;
            }
            if (asLane != lane) {
                return CAST_FAULT;
            }
            return i < 0 || i >= size ? INDEX_FAULT : 0;
        }
    }
}
