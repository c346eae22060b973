/** Promises 2 to 5 and part 1 of the terms: each sentence that names a boundary, on both sides of it. */
public final class TextBoundsTest {
    private static final int MIN = Integer.MIN_VALUE, MAX = Integer.MAX_VALUE;
    private static final Check check = new Check();

    public static void main(String[] args) {
        aByteIs0To127();
        theTapeHas300Bytes();
        aFullTapeIsReadToItsEnd();
        endKeepsTheFirst();
        endOfAWrongNumber();
        theEmptyTape();
        theTapeIsEmptyThen();
        thePlaceOfAFault();
        everyPrefix();
        everyByteEverywhere();
        aLevelIs0To99();
        segmentsAre8AtMost();
        levelsOfASegmentAre1To16();
        playOfASegmentThatThereIs();
        aMarkIs0To9();
        aLoopIs1To9();
        anUntilIs0To3();
        itemsAre24AtMost();
        the25thItem();
        fourInOneAnother();
        theFifthInOneAnother();
        aLoopHasAPlayInIt();
        tokensAsLongAsMayBe();
        blanksWhereWanted();
        behindTheGo();
        ofTwoAtOneToken();
        inPlaceOfWhatThereWas();
        faultIsOfTheLatestText();
        check.finish();
    }

    // ---- promises 2 and 3

    /** "A byte (0 to 127) comes behind THE TAPE: how many it has. BAD". */
    private static void aByteIs0To127() {
        PooledWaves x = new PooledWaves();
        for (int c = 0; c <= 127; c++) {
            check.due("feed(" + c + ")", x.feed(c), c + 1);
        }
        for (int c : new int[] {-1, 128, 255, 256, 256 + 'g', -128, MIN, MAX}) {
            check.due("feed(" + c + ")", x.feed(c), -1);
        }
        check.due("bytes", x.count(1), 128);
    }

    /** "THE TAPE has 300 bytes"; "FULL: more than 300". */
    private static void theTapeHas300Bytes() {
        PooledWaves x = new PooledWaves();
        Check.feed(x, " ".repeat(298));
        check.due("the 299th byte", x.feed('g'), 299);
        check.due("the 300th byte", x.feed('g'), 300);
        check.due("the 301st byte", x.feed('g'), -3);
        check.due("the 301st byte once more", x.feed(0), -3);
        check.due("bytes", x.count(1), 300);
        check.due("end(299)", x.end(299), 300);
        check.due("the 300th byte again", x.feed('h'), 300);
        check.due("the 301st byte again", x.feed('h'), -3);
        check.due("text()", x.text(), -10 - 298);
        check.due("a byte on the empty tape", x.feed('g'), 1);
    }

    private static void aFullTapeIsReadToItsEnd() {
        check.takes(wide("seg 1;go play 0", ";"), 1);
        check.takes(wide("", "seg 1;go play 0;"), 1);
        check.takes(wide("seg 1;go play 0;", ""), 1);
        check.faulty(wide("seg 1;go play 0", ""), 2, 300);
        check.faulty(wide("go;", "x"), 2, 299);
        check.faulty(wide("go;", "."), 1, 299);
        check.faulty(wide("", "."), 1, 299);
        check.faulty(wide("", "1"), 2, 299);
        check.faulty(wide("", "go"), 2, 300);
        check.faulty(wide("seg", "12"), 2, 300);
        check.faulty(wide("seg", "123"), 1, 297);
        check.faulty("a".repeat(300), 2, 0);
        check.faulty("1".repeat(300), 1, 0);
        check.faulty("seg" + "1".repeat(297), 1, 3);
        check.faulty("(".repeat(300), 2, 0);
        check.faulty(" ".repeat(300), 2, 300);
    }

    /** Of 300 bytes: blanks between what it begins with and what it ends with. */
    private static String wide(String head, String tail) {
        return head + " ".repeat(300 - head.length() - tail.length()) + tail;
    }

    /** "THE TAPE keeps its first n bytes: how many it had." */
    private static void endKeepsTheFirst() {
        PooledWaves x = new PooledWaves();
        check.due("end(0) of none", x.end(0), 0);
        Check.feed(x, "seg 12;go;");
        check.due("end(10) of 10 keeps all", x.end(10), 10);
        check.due("bytes", x.count(1), 10);
        check.due("end(9) of 10", x.end(9), 10);
        check.due("end(5) of 9", x.end(5), 9);
        check.due("bytes", x.count(1), 5);
        Check.feed(x, "9 3;go;");
        check.due("text()", x.text(), 0);
        check.due("first level", x.level(0), 19);
        check.due("second level", x.level(1), 3);
        check.due("no third level", x.level(2), -4);
        Check.feed(x, "x");
        check.due("end(0) of 1", x.end(0), 1);
        check.due("bytes", x.count(1), 0);
        Check.feed(x, "go;");
        check.due("text() behind end(0)", x.text(), 0);
        x = new PooledWaves();
        Check.feed(x, " ".repeat(300));
        check.due("end(300) of 300", x.end(300), 300);
        check.due("end(0) of 300", x.end(0), 300);
        check.due("end(0) of 0", x.end(0), 0);
    }

    /** "BAD (n above that, too)". */
    private static void endOfAWrongNumber() {
        PooledWaves x = new PooledWaves();
        for (int n : new int[] {1, -1, 300, MIN, MAX}) {
            check.due("end(" + n + ") of 0", x.end(n), -1);
        }
        Check.feed(x, "go;");
        for (int n : new int[] {4, -1, 300, 301, MIN, MAX}) {
            check.due("end(" + n + ") of 3", x.end(n), -1);
        }
        check.due("bytes stay", x.count(1), 3);
        check.due("they are as they were", x.text(), 0);
        Check.feed(x, " ".repeat(300));
        check.due("end(301) of 300", x.end(301), -1);
        check.due("bytes stay", x.count(1), 300);
    }

    // ---- promise 4

    private static void theEmptyTape() {
        PooledWaves x = new PooledWaves();
        check.due("text() of nothing", x.text(), -10);
        check.due("its fault", x.fault(), 2);
        Check.feed(x, "go;");
        x.end(0);
        check.due("text() of what went", x.text(), -10);
        check.due("its fault", x.fault(), 2);
        check.faulty(" ", 2, 1);
    }

    /** "THE TAPE (empty then, by a FAULT, too)". */
    private static void theTapeIsEmptyThen() {
        PooledWaves x = new PooledWaves();
        check.due("text()", Check.tell(x, "seg 1;go play 0;"), 1);
        check.due("bytes", x.count(1), 0);
        check.due("text() once more", x.text(), -10);
        check.due("what was told stays", x.rule(4), 1);
        check.due("a faulty text", Check.tell(x, "seg 1;go play 1;"), -24);
        check.due("bytes by a fault", x.count(1), 0);
        check.due("the first byte comes to place 0", x.feed('.'), 1);
        check.due("its text()", x.text(), -10);
        check.due("its fault", x.fault(), 1);
    }

    /** "-10 less the place of its FAULT"; "or the end: the length". */
    private static void thePlaceOfAFault() {
        for (int p = 0; p < 300; p++) {
            check.faulty(" ".repeat(p) + ".", 1, p);
            check.faulty(" ".repeat(p), 2, p);
        }
        check.faulty(" ".repeat(300), 2, 300);
    }

    private static final String[] TEXTS = {
        "seg 1 23;seg 0;go play 1 mark 9 loop 2(play 0)until 3(mark 0 play 1);",
        " seg12 3 ;seg 4;go loop 1(loop 9(until 0(loop 3(play 0))mark 7))play1; ",
        "seg 1;seg 2;seg 3;seg 4;seg 5;seg 6;seg 7;seg 8;go play 7;",
        "seg 9;go mark 1mark 1mark 1mark 1mark 1mark 1mark 1mark 1mark 1mark 1mark 1mark 1mark 1mark 1mark 1mark 1"
            + "mark 1mark 1mark 1mark 1mark 1loop 1(play 0);"};

    /** Each text that ends too soon, and each that goes on with one more token than it may have. */
    private static void everyPrefix() {
        for (String text : TEXTS) {
            for (int n = 0; n <= text.length(); n++) {
                asInTheModel(text.substring(0, n));
                for (String more : new String[] {" ", "0", "a", " seg", " play 0", "(", ")", ";", ".", "77", " 777"}) {
                    asInTheModel(text.substring(0, n) + more);
                }
            }
        }
    }

    private static void everyByteEverywhere() {
        for (String text : TEXTS) {
            for (int at = 0; at < text.length(); at++) {
                for (int c = 0; c <= 127; c++) {
                    asInTheModel(text.substring(0, at) + (char) c + text.substring(at + 1));
                }
            }
        }
    }

    private static void asInTheModel(String text) {
        PooledWaves x = new PooledWaves();
        PlainModel m = new PlainModel();
        for (int i = 0; i < text.length(); i++) {
            x.feed(text.charAt(i));
            m.feed(text.charAt(i));
        }
        check.due("text() of '" + text + "'", x.text(), m.text());
        check.due("fault() of '" + text + "'", x.fault(), m.fault);
        for (int what = 0; what < 6; what++) {
            check.due("rule " + what + " of '" + text + "'", x.rule(what), m.rule(what));
        }
    }

    // ---- the bounds of part 1

    /** "A LEVEL is 0 to 99." */
    private static void aLevelIs0To99() {
        for (int v = 0; v <= 99; v++) {
            check.due("level " + v, Check.told("seg " + v + ";go;").level(0), v);
            check.due("level " + v + " in two figures", Check.told("seg " + v / 10 + v % 10 + ";go;").level(0), v);
        }
        check.faulty("seg 100;go;", 1, 4);
        check.faulty("seg 099;go;", 1, 4);
        check.faulty("seg 99 000;go;", 1, 7);
    }

    /** "SEGMENTS 0 on (8 at most)"; "4 the 9th seg". */
    private static void segmentsAre8AtMost() {
        for (int n = 0; n <= 8; n++) {
            String text = "seg 1;".repeat(n) + "go;";
            check.takes(text, 0);
            check.due("segments of '" + text + "'", Check.told(text).rule(0), n);
        }
        check.faulty("seg 1;".repeat(9) + "go;", 4, 48);
        check.faulty("seg 1;".repeat(10) + "go;", 4, 48);
        check.faulty("seg 1;".repeat(8) + "  seg 100", 4, 50);
        check.faulty("seg 1;".repeat(8) + "play", 2, 48);
    }

    /** "each of 1 to 16 LEVELS"; "4 ... the 17th LEVEL of a SEGMENT". */
    private static void levelsOfASegmentAre1To16() {
        check.faulty("seg;go;", 2, 3);
        check.faulty("seg 1;seg ;go;", 2, 10);
        for (int n = 1; n <= 16; n++) {
            String text = "seg" + " 7".repeat(n) + ";go;";
            check.takes(text, 0);
            check.due("levels of '" + text + "'", Check.told(text).segment(0, 1), n);
        }
        check.faulty("seg" + " 7".repeat(17) + ";go;", 4, 3 + 16 * 2 + 1);
        check.faulty("seg" + " 7".repeat(18) + ";go;", 4, 3 + 16 * 2 + 1);
        // Each segment has its own count.
        check.takes(("seg" + " 7".repeat(16) + ";").repeat(2) + "go;", 0);
        check.faulty("seg" + " 7".repeat(16) + ";seg" + " 7".repeat(17) + ";", 4, 36 + 3 + 16 * 2 + 1);
    }

    /** "3 ... a SEGMENT that there is not". */
    private static void playOfASegmentThatThereIs() {
        check.faulty("go play 0;", 3, 8);
        for (int n = 1; n <= 8; n++) {
            String head = "seg 1;".repeat(n) + "go play ";
            check.takes(head + "0;", 1);
            check.takes(head + (n - 1) + ";", 1);
            check.faulty(head + n + ";", 3, head.length());
            check.faulty(head + "99;", 3, head.length());
        }
    }

    /** "1 MARK (0 to 9)". */
    private static void aMarkIs0To9() {
        for (int v = 0; v <= 9; v++) {
            check.due("mark " + v, Check.told("go mark " + v + ";").item(0, 1), v);
        }
        check.faulty("go mark 10;", 3, 8);
        check.faulty("go mark 99;", 3, 8);
        check.faulty("go mark 100;", 1, 8);
        check.faulty("go mark;", 2, 7);
    }

    /** "2 LOOP of 1 to 9 TURNS". */
    private static void aLoopIs1To9() {
        for (int v = 1; v <= 9; v++) {
            PooledWaves x = Check.told("seg 5;go loop " + v + "(play 0);");
            check.due("loop " + v, x.item(0, 1), v);
            check.due("whole of loop " + v, x.whole(), v);
        }
        check.faulty("seg 5;go loop 0(play 0);", 3, 14);
        check.faulty("seg 5;go loop 00(play 0);", 3, 14);
        check.faulty("seg 5;go loop 10(play 0);", 3, 14);
        check.faulty("seg 5;go loop 99(play 0);", 3, 14);
    }

    /** "3 UNTIL a TRIGGER (0 to 3)". */
    private static void anUntilIs0To3() {
        for (int v = 0; v <= 3; v++) {
            check.due("until " + v, Check.told("seg 5;go until " + v + "(play 0);").item(0, 1), v);
        }
        check.faulty("seg 5;go until 4(play 0);", 3, 15);
        check.faulty("seg 5;go until 99(play 0);", 3, 15);
    }

    /** "ITEMS 0 on (24 at most)"; "(The ) is an ITEM, too.)". */
    private static void itemsAre24AtMost() {
        check.takes("go;", 0);
        for (int n = 1; n <= 24; n++) {
            check.takes("go" + " mark 1".repeat(n) + ";", n);
            check.takes("seg 1;go" + " play 0".repeat(n) + ";", n);
        }
        for (int n = 1; n <= 8; n++) {
            check.takes("seg 1;go" + " loop 1(play 0)".repeat(n) + ";", 3 * n);
            check.takes("seg 1;go" + " until 1(play 0)".repeat(n) + ";", 3 * n);
        }
        check.takes("seg 1;go" + " mark 1".repeat(15) + " loop 1(until 2(loop 3(until 3(play 0))));", 24);
    }

    /** "4 ... the 25th ITEM (its NAME, its sign)". */
    private static void the25thItem() {
        String full = "seg 1;go" + " mark 1".repeat(24);
        for (String name : new String[] {"play", "mark", "loop", "until"}) {
            check.faulty(full + " " + name + " 0;", 4, full.length() + 1);
            check.faulty(full + "  " + name, 4, full.length() + 2);
            check.faulty(full + name + " 777;", 4, full.length());
            check.faulty(full + name + ".", 4, full.length());
        }
        String one = "seg 1;go" + " mark 1".repeat(23);
        check.faulty(one + "loop 1(play 0);", 4, one.length() + 7);
        check.faulty(one + "until 1( until", 4, one.length() + 9);
        check.faulty(one + "loop 1();", 4, one.length() + 7);
        String two = "seg 1;go" + " mark 1".repeat(22);
        check.faulty(two + "loop 1(play 0);", 4, two.length() + 13);
        check.faulty(two + "loop 1(play 0 );", 4, two.length() + 14);
        check.faulty("seg 1;go" + " loop 1(play 0)".repeat(8) + "mark", 4, 8 + 8 * 15);
        check.faulty("seg 1;go" + " mark 1".repeat(16) + "loop 1(loop 1(loop 1(loop 1(play 0))))", 4,
            8 + 16 * 7 + 28 + 6 + 3);
    }

    // ---- one in another

    private static String nest(int kinds, int n) {
        StringBuilder s = new StringBuilder();
        for (int k = 0; k < n; k++) {
            s.append((kinds >> k & 1) == 0 ? "loop 1(" : "until 1(");
        }
        return s.toString();
    }

    /** "DEPTH: ... 4 at most, so that 3 is the greatest of those". */
    private static void fourInOneAnother() {
        for (int n = 1; n <= 4; n++) {
            for (int kinds = 0; kinds < 1 << n; kinds++) {
                String text = "seg 1;go " + nest(kinds, n) + "play 0" + ")".repeat(n) + ";";
                check.takes(text, 2 * n + 1);
                PooledWaves x = Check.told(text);
                check.due("depth of the innermost of '" + text + "'", x.item(n - 1, 3), n - 1);
                check.due("depth of the play of '" + text + "'", x.item(n, 3), n);
                check.due("depth of its end of '" + text + "'", x.item(n + 1, 3), n - 1);
            }
        }
        check.takes("seg 1;go" + " loop 1(play 0)".repeat(5) + ";", 15);
        check.takes("seg 1;go " + nest(0, 4) + "play 0)" + nest(1, 1) + "play 0))))"
            + nest(5, 4) + "play 0" + "))))" + ";", 9 + 3 + 9);
    }

    /** "5 a sign ( by which there would be 5 LOOPS, UNTILS one in another". */
    private static void theFifthInOneAnother() {
        for (int kinds = 0; kinds < 32; kinds++) {
            String text = "seg 1;go " + nest(kinds, 5);
            check.faulty(text, 5, text.length() - 1);
            check.faulty(text + "play 0)))));", 5, text.length() - 1);
        }
        String four = "seg 1;go " + nest(6, 4);
        check.faulty(four + "loop 1  (", 5, four.length() + 8);
        check.faulty(four + "play 0 loop 1(play 0))", 5, four.length() + 13);
        check.faulty(four + "play 0)loop 1(until 1(", 5, four.length() + 21);
        // What is wrong ahead of that sign is met first.
        check.faulty(four + "loop 0(", 3, four.length() + 5);
        check.faulty(four + "until 4(", 3, four.length() + 6);
        check.faulty(four + "loop(", 2, four.length() + 4);
        check.faulty(four + "loop 1)", 2, four.length() + 6);
        check.faulty(four + "loop 1", 2, four.length() + 6);
        check.faulty(four + "loop 1.", 1, four.length() + 6);
    }

    /** "6 a sign ) whose LOOP, UNTIL has no PLAY in it (nor in one in it)". */
    private static void aLoopHasAPlayInIt() {
        for (String kind : new String[] {"loop 2(", "until 2("}) {
            int n = kind.length();
            check.faulty("seg 1;go " + kind + ");", 6, 9 + n);
            check.faulty("seg 1;go " + kind + "mark 1 );", 6, 9 + n + 7);
            check.faulty("seg 1;go play 0 " + kind + ")play 0;", 6, 16 + n);
            check.faulty("seg 1;go " + kind + kind + "))", 6, 9 + 2 * n);
            check.faulty("seg 1;go " + kind + "play 0 " + kind + "))", 6, 9 + n + 7 + n);
            check.faulty("seg 1;go " + kind + kind + "play 0)" + kind + ")play 0)", 6, 9 + 2 * n + 7 + n);
            check.faulty("seg 1;go " + kind + "play 0)" + kind + "mark 2)", 6, 9 + n + 7 + n + 6);
            check.takes("seg 1;go " + kind + "play 0);", 3);
            check.takes("seg 1;go " + kind + kind + kind + kind + "play 0))));", 9);
            check.takes("seg 1;go " + kind + kind + "play 0)mark 1);", 6);
            check.takes("seg 1;go " + kind + "mark 1" + kind + "play 0));", 6);
        }
    }

    // ---- tokens

    /** "TOKENS, each as long as may be"; "NAMES (a .. z), NUMBERS (1 or 2 figures)". */
    private static void tokensAsLongAsMayBe() {
        check.faulty("segseg 1;", 2, 0);
        check.faulty("goplay 0;", 2, 0);
        check.faulty("seg 1;goplay 0;", 2, 6);
        check.faulty("seg 1;go playmark 0;", 2, 9);
        check.faulty("se g 1;", 2, 0);
        check.due("12 is one number", Check.told("seg 12;go;").rule(1), 1);
        check.due("1 2 are two", Check.told("seg 1 2;go;").rule(1), 2);
        check.faulty("seg 123;go;", 1, 4);
        check.faulty("seg 12 3456;go;", 1, 7);
        check.takes("seg 1;go mark 09;", 1);
        check.faulty("seg 1;go mark 009;", 1, 14);
        for (int c = 0; c <= 127; c++) {
            String text = "go" + (char) c + ";";
            if (c == ' ') {
                check.takes(text, 0);
            } else if (c >= 'a' && c <= 'z') {
                check.faulty(text, 2, 0);
            } else if (c >= '0' && c <= '9' || c == '(' || c == ')') {
                check.faulty(text, 2, 2);
            } else if (c == ';') {
                check.faulty(text, 2, 3);
            } else {
                check.faulty(text, 1, 2);
                check.faulty((char) c + "go;", 1, 0);
                check.faulty("go;" + (char) c, 1, 3);
                check.faulty("seg 1" + (char) c + ";go;", 1, 5);
            }
        }
    }

    /** "blanks (32) ahead, between, behind, as many as wanted (... else none is needed)". */
    private static void blanksWhereWanted() {
        check.takes("seg1;go play0loop1(play0)mark1until0(play0);", 8);
        check.takes("   seg   1   ;   go   play   0   loop   1   (   play   0   )   ;   ", 4);
        check.takes("seg 1;go play 0mark 1;", 2);
        check.faulty("seg 1\t;go;", 1, 5);
        check.faulty("seg 1;\ngo;", 1, 6);
    }

    /** "behind the ; of go all others". */
    private static void behindTheGo() {
        for (String more : new String[] {"go", "seg", "play", "x", "0", "12", "(", ")", ";"}) {
            check.faulty("go;" + more, 2, 3);
            check.faulty("seg 1;go play 0;  " + more, 2, 18);
        }
        check.faulty("go;123", 1, 3);
        check.faulty("go;.", 1, 3);
        check.takes("go;" + " ".repeat(297), 0);
    }

    /** "of two at one TOKEN the first here". */
    private static void ofTwoAtOneToken() {
        String segs = "seg 1;".repeat(8);
        String marks = "go" + " mark 1".repeat(24);
        check.faulty("123", 1, 0);
        check.faulty("go mark 100", 1, 8);
        check.faulty("seg" + " 1".repeat(16) + " 100", 1, 36);
        check.faulty(segs + "segs", 2, 48);
        check.faulty(segs + "111", 1, 48);
        check.faulty("seg" + " 1".repeat(16) + " seg", 2, 36);
        check.faulty("seg" + " 1".repeat(16) + " (", 2, 36);
        check.faulty(marks + " seg", 2, 2 + 24 * 7 + 1);
        check.faulty(marks + " 1", 2, 2 + 24 * 7 + 1);
        check.faulty(marks + " (", 2, 2 + 24 * 7 + 1);
        check.faulty(marks + " )", 2, 2 + 24 * 7 + 1);
        check.faulty(marks + " .", 1, 2 + 24 * 7 + 1);
        check.faulty("go" + " mark 1".repeat(23) + " loop 1(;", 2, 2 + 23 * 7 + 8);
        check.faulty("go" + " mark 1".repeat(23) + " loop 1()", 4, 2 + 23 * 7 + 8);
        check.faulty("go );", 2, 3);
        // "a TOKEN is read when the one before has been taken": a later fault is not met.
        check.faulty("go mark 10 .", 3, 8);
        check.faulty("go x 123", 2, 3);
        check.faulty("go loop 1().", 6, 10);
    }

    // ---- what a text tells, and fault()

    /** "A text that is taken tells SEGMENTS, THE PROGRAM, in place of what there was; ANEW (SHEETS stay)." */
    private static void inPlaceOfWhatThereWas() {
        PooledWaves x = new PooledWaves();
        // Three texts, so that each row that is used again has held more before.
        for (int k = 0; k < 3; k++) {
            Check.tell(x, "seg 1 2 3;seg 4 5 6 7 8 9;seg 1;go mark 1 loop 2(play 0 play 1)until 0(play 2);");
        }
        x.set(6, 33);
        x.set(8, 5);
        x.tick(20);
        x.trigger(1);
        x.keep(0);
        x.sheet(0, 1, 6);
        check.due("a smaller text", Check.tell(x, "seg 6 7;go play 0;"), 1);
        int[] rules = {1, 2, 2, 0, 1, 1, 33, 0, 5, 1, 4};
        for (int what = 0; what < rules.length; what++) {
            check.due("rule " + what, x.rule(what), rules[what]);
        }
        check.due("level 0", x.level(0), 6);
        check.due("level 1", x.level(1), 7);
        check.due("no level 2", x.level(2), -4);
        check.due("segment 0", x.segment(0, 0), 0);
        check.due("no segment 1", x.segment(1, 0), -1);
        check.due("no item 1", x.item(1, 0), -1);
        check.due("no loop", x.turns(1), -1);
        check.due("whole", x.whole(), 2);
        check.due("no plain 2", x.plain(2), -4);
        int[] player = {0, 0, 0, 0, 0, 0, 0, 0, 0, 0};
        for (int what = 0; what < player.length; what++) {
            check.due("player " + what, x.player(what), player[what]);
        }
        check.due("no image", x.count(0), 0);
        check.due("sheets stay", x.count(2), 6);
        check.due("the empty program", Check.tell(x, "go;"), 0);
        check.due("it is over", x.player(0), -4);
        for (int what = 0; what < 6; what++) {
            check.due("rule " + what + " of nothing", x.rule(what), 0);
        }
        check.due("sheets stay", x.count(2), 6);
    }

    /** "The FAULT of the latest text(); 0." */
    private static void faultIsOfTheLatestText() {
        PooledWaves x = new PooledWaves();
        check.due("no text yet", x.fault(), 0);
        String[] texts = {"go;", ".", "x", "go mark 10;", "seg 1;".repeat(8) + "seg", "seg 1;go " + nest(0, 5), "go loop 1()"};
        for (int k = 0; k < texts.length; k++) {
            Check.tell(x, texts[k]);
            check.due("fault of '" + texts[k] + "'", x.fault(), k);
        }
        x.draw(1, 1);
        check.due("draw() is no text()", x.fault(), 6);
        x.again();
        x.feed('g');
        x.end(0);
        check.due("the fault stays", x.fault(), 6);
        Check.tell(x, "go;");
        check.due("a text that is taken", x.fault(), 0);
    }
}
