/** Promises 2 to 5: feed, end, text, fault. */
public final class TextTest {
    private static final Check check = new Check();

    public static void main(String[] args) {
        tape();
        taken();
        unreadable();
        misplaced();
        outOfBounds();
        tooMany();
        tooDeep();
        withoutPlay();
        firstOfTwo();
        aFaultChangesNothing();
        check.finish();
    }

    private static void tape() {
        PooledWaves x = new PooledWaves();
        check.due("feed(-1)", x.feed(-1), -1);
        check.due("feed(128)", x.feed(128), -1);
        check.due("feed(0)", x.feed(0), 1);
        check.due("feed(127)", x.feed(127), 2);
        check.due("end(3)", x.end(3), -1);
        check.due("end(-1)", x.end(-1), -1);
        check.due("end(2)", x.end(2), 2);
        check.due("end(1)", x.end(1), 2);
        check.due("end(2) of 1", x.end(2), -1);
        check.due("end(0)", x.end(0), 1);
        check.due("end(0) of 0", x.end(0), 0);
        for (int i = 1; i <= 300; i++) {
            check.due("feed " + i, x.feed(' '), i);
        }
        check.due("feed 301", x.feed(' '), -3);
        check.due("feed(-1) when full", x.feed(-1), -1);
        check.due("bytes", x.count(1), 300);
        check.due("text() of blanks", x.text(), -310);
        check.due("its fault", x.fault(), 2);
        check.due("the tape is empty", x.count(1), 0);
        Check.feed(x, "seg 1;go play 0;xyz");
        check.due("end(16)", x.end(16), 19);
        check.due("text() of what is left", x.text(), 1);
        // What stood behind the end is not read.
        Check.feed(x, "seg 123");
        x.end(5);
        check.due("a figure behind the end", x.text(), -15);
        Check.feed(x, "gone");
        x.end(2);
        check.due("a letter behind the end", x.text(), -12);
        Check.feed(x, "go   ;");
        x.end(3);
        check.due("a blank behind the end", x.text(), -13);
    }

    private static void taken() {
        check.takes("go;", 0);
        check.takes("  go  ;  ", 0);
        check.takes("seg 1;go;", 0);
        check.takes("seg1;go play0mark1loop2(play0)until3(play0);", 8);
        check.takes("seg 1 ; go loop 9 ( play 00 ) mark 09 loop 01(play 0);", 7);
        check.takes("seg 0 99 00 07;go play 0;", 1);
        check.takes("seg" + " 1".repeat(16) + ";go;", 0);
        check.takes("seg 1;".repeat(8) + "go play 7;", 1);
        check.takes("seg 1;go" + " play 0".repeat(24) + ";", 24);
        check.takes("seg 1;go loop 1(until 0(loop 1(until 3(play 0))));", 9);
        check.takes("seg 1;go loop 1(mark 1 loop 1(play 0)mark 2);", 6 + 1);
    }

    private static void unreadable() {
        check.faulty(".", 1, 0);
        check.faulty("seg 1.go;", 1, 5);
        check.faulty("seg 1 Go;", 1, 6);
        check.faulty("\tgo;", 1, 0);
        check.faulty("seg 100;", 1, 4);
        check.faulty("seg 1 000 go;", 1, 6);
        check.faulty("seg 1" + "2".repeat(200) + ";", 1, 4);
        check.faulty("go;{", 1, 3);
        check.faulty("go; 123", 1, 4);
        check.faulty("go\u0000;", 1, 2);
        check.faulty("go`;", 1, 2);
        check.faulty("go/;", 1, 2);
        check.faulty("go:;", 1, 2);
    }

    private static void misplaced() {
        check.faulty("", 2, 0);
        check.faulty("   ", 2, 3);
        check.faulty("gogo;", 2, 0);
        check.faulty("g o;", 2, 0);
        check.faulty("ho;", 2, 0);
        check.faulty("goz;", 2, 0);
        check.faulty("agoa;", 2, 0);
        check.faulty("xeg 1;go;", 2, 0);
        check.faulty("segs 1;go;", 2, 0);
        check.faulty("play 0;", 2, 0);
        check.faulty("1", 2, 0);
        check.faulty("seg", 2, 3);
        check.faulty("seg ;go;", 2, 4);
        check.faulty("seg a;go;", 2, 4);
        check.faulty("seg 1", 2, 5);
        check.faulty("seg 1 (;", 2, 6);
        check.faulty("seg 1 seg 2;", 2, 6);
        check.faulty("seg 1;", 2, 6);
        check.faulty("seg 1;;go;", 2, 6);
        check.faulty("go", 2, 2);
        check.faulty("go  ", 2, 4);
        check.faulty("go 1;", 2, 3);
        check.faulty("go (;", 2, 3);
        check.faulty("go );", 2, 3);
        check.faulty("go seg 1;", 2, 3);
        check.faulty("go plays 0;", 2, 3);
        check.faulty("go pla 0;", 2, 3);
        check.faulty("seg 1;go play;", 2, 13);
        check.faulty("seg 1;go play play;", 2, 14);
        check.faulty("seg 1;go mark(;", 2, 13);
        check.faulty("seg 1;go loop(play 0);", 2, 13);
        check.faulty("seg 1;go loop 2 play 0;", 2, 16);
        check.faulty("seg 1;go loop 2;", 2, 15);
        check.faulty("seg 1;go loop 2)", 2, 15);
        check.faulty("seg 1;go until 2", 2, 16);
        check.faulty("seg 1;go loop 2(play 0;", 2, 22);
        check.faulty("seg 1;go loop 2(play 0", 2, 22);
        check.faulty("seg 1;go loop 2(play 0));", 2, 23);
        check.faulty("seg 1;go play 0 0;", 2, 16);
        check.faulty("go;;", 2, 3);
        check.faulty("go;go;", 2, 3);
        check.faulty("go; 1", 2, 4);
        check.faulty("go; )", 2, 4);
    }

    private static void outOfBounds() {
        check.faulty("go play 0;", 3, 8);
        check.faulty("seg 1;go play 1;", 3, 14);
        check.faulty("seg 1;seg 2;go play 99;", 3, 20);
        check.faulty("go mark 10;", 3, 8);
        check.faulty("go loop 0(", 3, 8);
        check.faulty("go loop 10(", 3, 8);
        check.faulty("go until 4(", 3, 9);
    }

    private static void tooMany() {
        check.faulty("seg" + " 1".repeat(17) + ";go;", 4, 36);
        check.faulty("seg 1;".repeat(8) + "seg 1;go;", 4, 48);
        check.faulty("seg 1;".repeat(8) + " seg", 4, 49);
        check.faulty("seg 1;go" + " play 0".repeat(25) + ";", 4, 8 + 24 * 7 + 1);
        check.faulty("go" + " mark 1".repeat(24) + " loop", 4, 2 + 24 * 7 + 1);
        check.faulty("seg 1;go loop 1(" + "play 0 ".repeat(23) + ")", 4, 16 + 23 * 7);
        check.faulty("go" + " mark 1".repeat(24) + " mark 77", 4, 2 + 24 * 7 + 1);
    }

    private static void tooDeep() {
        check.faulty("seg 1;go loop 1(loop 1(until 1(loop 1(until 1(", 5, 45);
        check.faulty("seg 1;go loop 1(loop 1(until 1(loop 1(play 0 loop 1 (play 0))", 5, 52);
        check.takes("seg 1;go loop 1(loop 1(loop 1(loop 1(play 0)loop 1(play 0))));", 12);
        // A 25th item is found at its name, ahead of a depth that would be found at its sign.
        check.faulty("seg 1;go" + " mark 1".repeat(20) + "loop 1(loop 1(loop 1(loop 1(loop 1(", 4,
            8 + 20 * 7 + 28);
    }

    private static void withoutPlay() {
        check.faulty("go loop 1()", 6, 10);
        check.faulty("go until 1(mark 3 )", 6, 18);
        check.faulty("seg 1;go play 0 loop 1()", 6, 23);
        check.faulty("seg 1;go loop 1(play 0 until 0())", 6, 31);
        check.faulty("seg 1;go loop 1(loop 2(play 0)mark 1)until 1()", 6, 45);
        check.faulty("seg 1;go until 0(loop 2(play 0) loop 2(mark 1))", 6, 45);
        // An endless part in it is a PLAY in it.
        check.takes("seg 1;go loop 1(until 1(play 0));", 5);
    }

    private static void firstOfTwo() {
        // Too long and misplaced: unreadable. A 25th ) that has no play: too many.
        check.faulty("go 123", 1, 3);
        check.faulty("seg" + " 1".repeat(16) + " 123;", 1, 36);
        check.faulty("go" + " mark 1".repeat(23) + "loop 1()", 4, 2 + 23 * 7 + 7);
        check.faulty("go" + " mark 1".repeat(24) + ")", 2, 2 + 24 * 7);
        check.faulty("go" + " mark 1".repeat(24) + "x", 2, 2 + 24 * 7);
        // The first token is looked at whole before the next one is read.
        check.faulty("go loop 0 .", 3, 8);
        check.faulty("go play 0 .", 3, 8);
    }

    private static void aFaultChangesNothing() {
        PooledWaves x = Check.told("seg 1 2;seg 2 3;go mark 7 play 0 play 1;");
        x.set(9, 0);
        x.tick(4);
        x.keep(0);
        int clock = x.player(2);
        check.due("a faulty text", Check.tell(x, "seg 5;go play 0 loop 1();"), -10 - 23);
        check.due("its fault", x.fault(), 6);
        check.due("tape", x.count(1), 0);
        check.due("segments stay", x.rule(0), 2);
        check.due("items stay", x.rule(4), 3);
        check.due("pool stays", x.level(0), 1);
        check.due("clock stays", x.player(2), clock);
        check.due("images stay", x.count(0), 1);
        check.due("marks stay", x.player(6), 1);
        check.due("a text that is taken", Check.tell(x, "seg 5;go mark 3 play 0;"), 2);
        check.due("no fault then", x.fault(), 0);
        check.due("its segments", x.rule(0), 1);
        check.due("its pool", x.level(0), 5);
        check.due("clock anew", x.player(2), 0);
        check.due("outs anew", x.player(4), 0);
        check.due("last anew", x.player(3), 0);
        check.due("cache anew", x.player(7), 0);
        check.due("images are gone", x.count(0), 0);
        check.due("back", x.back(0), -2);
        check.due("settled", x.player(0), 1);
        check.due("one mark", x.player(6), 1);
        check.due("the mark", x.marked(0, 0), 3);
        check.due("latency stays", x.rule(9), 0);
    }
}
