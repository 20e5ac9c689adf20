/** Promises 10 to 15, and how a core does its bytes (Terms 5 and 6). */
public final class ScheduleTest {
    public static void main(String[] args) {
        arithmetic();
        errors();
        sequences();
        begin();
        input();
        run();
        beat();
        rounds();
        outcome();
        channels();
        alternatives();
        slices();
        priorities();
        putAside();
        asideOnce();
        marks();
        absentEnds();
        Calls.close();
    }

    private static void shows(String e, int want) {
        Calls.finish("INT x, y:\n[3]INT a:\nSEQ\n  x := 7\n  y := 0 - 2\n  a[1] := 5\n  screen ! " + e, 1, "" + want);
    }

    private static void arithmetic() {
        shows("x + y", 5);
        shows("x - y", 9);
        shows("x * y", -14);
        shows("x / y", -3);
        shows("x \\ y", 1);
        shows("y \\ x", -2);
        shows("x << 2", 28);
        shows("x << 33", 14);
        shows("x << y", -1073741824);
        shows("y >> 1", 2147483647);
        shows("y >> 32", -2);
        shows("x /\\ 5", 5);
        shows("x \\/ 8", 15);
        shows("x > y", 1);
        shows("y > x", 0);
        shows("x < y", 0);
        shows("y < x", 1);
        shows("x < x", 0);
        shows("x <= x", 1);
        shows("x <= y", 0);
        shows("y >= x", 0);
        shows("x >= x", 1);
        shows("x = 7", 1);
        shows("x = y", 0);
        shows("x <> y", 1);
        shows("x <> 7", 0);
        shows("x AND y", 1);
        shows("x AND 0", 0);
        shows("0 AND (x / 0)", 0);
        shows("0 OR 0", 0);
        shows("0 OR y", 1);
        shows("x OR (x / 0)", 1);
        shows("- x", -7);
        shows("NOT x", 0);
        shows("NOT 0", 1);
        shows("a[1] + a[x - 6]", 10);
        shows("(x * a[1]) - (y * (x + a[0]))", 49);
        shows("2147483647 + 1", -2147483648);
        shows("(- 2147483647) - 2", 2147483647);
        shows("((- 2147483647) - 1) / (- 1)", -2147483648);
        shows("((- 2147483647) - 1) \\ (- 1)", 0);
        shows("65536 * 65536", 0);
    }

    private static void errors() {
        Calls.finish("INT x:\nx := 3 / x", 3, "");
        Calls.finish("INT x:\nx := 3 \\ x", 3, "");
        Calls.finish("IF\n  FALSE\n    SKIP", 3, "");
        Calls.finish("INT x:\n[3]INT a:\na[x - 1] := 1", 3, "");
        Calls.finish("INT x:\n[3]INT a:\na[x + 3] := 1", 3, "");
        Calls.finish("[3]INT a:\na[2] := 1", 1, "");
        Calls.finish("[3]CHAN c:\nc[3] ! 1", 3, "");
        Calls.finish("STOP", 2, "");
        // an error doesn't stop the others of its core
        LinkedCores x = Calls.good("INT x:\nPAR\n  x := 1 / 0\n  screen ! 5");
        x.run(0, 5000);
        Calls.due("error", x.core(0, 7), 1);
        Calls.due("the other one went on", Calls.outputs(x), "5");
        Calls.due("outcome", x.outcome(), 3);
        Calls.due("no more rounds", x.rounds(9), 0);
    }

    private static void sequences() {
        Calls.finish("SEQ i = 3 FOR 4\n  screen ! i", 1, "3 4 5 6");
        Calls.finish("SEQ i = 3 FOR 0\n  screen ! i", 1, "");
        Calls.finish("SEQ i = 3 FOR 0 - 5\n  screen ! i", 1, "");
        Calls.finish("INT x:\nSEQ\n  x := 5\n  WHILE x > 2\n    SEQ\n      screen ! x\n      x := x - 1", 1, "5 4 3");
        Calls.finish("SEQ i = 0 FOR 4\n  IF\n    i = 2\n      screen ! 20\n    i > 0\n      screen ! i\n    TRUE\n      SKIP", 1, "1 20 3");
        Calls.finish("SEQ i = 0 FOR 2\n  INT x:\n  SEQ\n    screen ! x\n    x := 9", 1, "0 0");
        Calls.finish("PROC f(VAL INT n, INT r, [3]INT t)\n  SEQ\n    t[n] := n + 5\n    r := t[n] * 2\n:\nINT x:\n[3]INT a:\n"
            + "SEQ i = 0 FOR 3\n  SEQ\n    f(i, x, a)\n    screen ! x\n    screen ! a[i]", 1, "10 5 12 6 14 7");
        Calls.finish("INT x, y:\nSEQ\n  PAR\n    x := 1\n    PAR i = 4 FOR 1\n      y := i\n  screen ! x + y", 1, "5");
        Calls.finish("[4]INT a:\nSEQ\n  PAR i = 0 FOR 4\n    a[i] := i * i\n  SEQ i = 0 FOR 4\n    screen ! a[i]", 1, "0 1 4 9");
    }

    private static final String CHAIN = "LINK l FROM 0 TO 1:\nPLACED PAR\n  PROCESSOR 0\n    INT x:\n    SEQ\n      keys ? x\n"
        + "      screen ! x\n      l ! x\n  PROCESSOR 1\n    INT y:\n    l ? y";

    private static void begin() {
        String fresh = Calls.seen(Calls.good(CHAIN));
        LinkedCores x = Calls.good(CHAIN);
        x.input(5);
        x.input(6);
        x.rounds(5000);
        Calls.due("done", x.outcome(), 1);
        Calls.due("all is changed", Calls.seen(x).equals(fresh) ? 1 : 0, 0);
        x.begin();
        Calls.due("as at the beginning", Calls.seen(x), fresh);
        LinkedCores y = Calls.good(CHAIN);
        y.input(7);
        y.rounds(30);
        y.begin();
        Calls.due("no inputs", y.input(4), 1);
        y.rounds(20);
        y.begin();
        Calls.due("as at the beginning", Calls.seen(y), fresh);
        int words = y.processor(1, 1) + 16;
        for (int k = 0; k < words; k++) {
            Calls.due("word " + k, y.word(1, k), k < 14 ? -1 : 0);
        }
    }

    private static void input() {
        LinkedCores x = Calls.good("INT x:\nSEQ i = 0 FOR 3\n  SEQ\n    keys ? x\n    screen ! x");
        x.run(0, 5000);
        Calls.due("it waits", x.core(0, 6), -1);
        Calls.due("one", x.input(-7), 1);
        Calls.due("it went over at once", x.about(1), 1);
        Calls.due("and is running", x.core(0, 6), 2 * x.processor(0, 3) + 1);
        Calls.due("the channel is free", x.word(0, 13), -1);
        Calls.due("two", x.input(8), 2);
        Calls.due("that one is not taken yet", x.about(1), 1);
        Calls.due("three", x.input(9), 3);
        x.run(0, 5000);
        Calls.due("in order", Calls.outputs(x), "-7 8 9");
        for (int k = 3; k < 200; k++) {
            x.input(k);
        }
        Calls.due("no more", Calls.of(() -> x.input(1)), Calls.UNSUPPORTED);
        x.begin();
        Calls.due("again", x.input(1), 1);
        LinkedCores y = Calls.good("PLACED PAR\n  PROCESSOR 3\n    SKIP");
        Calls.due("without a processor 0", y.input(3), 1);
    }

    private static void run() {
        LinkedCores x = Calls.good("INT x:\nSEQ\n  x := 300\n  screen ! x");
        Calls.due("none", x.run(0, 0), 0);
        Calls.due("some", x.run(0, 5), 5);
        Calls.due("O between bytes", x.core(0, 5), 16);
        Calls.due("one", x.run(0, 1), 1);
        Calls.due("O", x.core(0, 5), (16 | 2) * 16);
        Calls.due("one", x.run(0, 1), 1);
        Calls.due("A", x.core(0, 0) + " " + x.core(0, 5), "300 0");
        Calls.due("till none runs", x.run(0, 5000), x.processor(0, 0) - 7);
        Calls.due("none runs", x.run(0, 5000), 0);
        Calls.due("below", Calls.of(() -> x.run(0, -1)), Calls.ARGUMENT);
        Calls.due("above", Calls.of(() -> x.run(0, 5001)), Calls.ARGUMENT);
        Calls.due("no beats", x.about(5), 0);
        LinkedCores y = Calls.good("WHILE TRUE\n  SKIP");
        Calls.due("all of them", y.run(0, 5000), 5000);
    }

    private static void beat() {
        LinkedCores x = Calls.good("LINK l FROM 0 TO 1:\nLINK m FROM 0 TO 1:\nPLACED PAR\n  PROCESSOR 0\n    PAR\n      l ! 258\n      m ! 0 - 1\n"
            + "  PROCESSOR 1\n    INT x, y:\n    SEQ\n      m ? y\n      l ? x\n      l ? x");
        Calls.due("nothing goes", x.beat(1000), 0);
        Calls.due("beats", x.about(5), 1000);
        x.run(0, 5000);
        x.run(1, 5000);
        Calls.due("both links", x.beat(1), 2);
        Calls.due("none", x.beat(0), 0);
        // m goes through: eight packets; l waits for its last acknowledgement: seven
        Calls.due("the rest", x.beat(1000), 13);
        Calls.due("packets", x.about(6), 15);
        Calls.due("beats", x.about(5), 2001);
        Calls.due("y", x.word(1, x.processor(1, 3) + 2), -1);
        Calls.due("x has not come", x.word(1, x.processor(1, 3) + 1), 0);
        x.run(1, 5000);
        Calls.due("x", x.word(1, x.processor(1, 3) + 1), 258);
        Calls.due("the last one", x.beat(9), 1);
        Calls.due("below", Calls.of(() -> x.beat(-1)), Calls.ARGUMENT);
        Calls.due("above", Calls.of(() -> x.beat(1001)), Calls.ARGUMENT);
        x.run(0, 5000);
        Calls.due("it waits for good", x.outcome(), 2);
    }

    private static void rounds() {
        LinkedCores x = Calls.good("PLACED PAR\n  PROCESSOR 5\n    INT x:\n    x := 1\n"
            + "  PROCESSOR 2\n    SKIP");
        Calls.due("none", x.rounds(0), 0);
        Calls.due("one", x.rounds(1), 1);
        Calls.due("a byte each", x.core(5, 11) + " " + x.core(2, 11), "1 1");
        Calls.due("a beat", x.about(5), 1);
        Calls.due("till all are done", x.rounds(5000), 7);
        Calls.due("the shorter one stopped", x.core(5, 11) + " " + x.core(2, 11), "8 2");
        Calls.due("no more", x.rounds(5000), 0);
        Calls.due("below", Calls.of(() -> x.rounds(-1)), Calls.ARGUMENT);
        Calls.due("above", Calls.of(() -> x.rounds(5001)), Calls.ARGUMENT);
    }

    private static void outcome() {
        LinkedCores x = Calls.good("LINK l FROM 1 TO 0:\nPLACED PAR\n  PROCESSOR 0\n    INT x:\n    l ? x\n  PROCESSOR 1\n    l ! 4");
        Calls.due("at first", x.outcome(), 0);
        x.run(0, 5000);
        x.run(1, 5000);
        Calls.due("a byte may go", x.outcome(), 0);
        x.beat(7);
        Calls.due("the acknowledgement is due", x.outcome(), 0);
        x.beat(1);
        x.run(0, 5000);
        Calls.due("one is not done", x.outcome(), 0);
        x.run(1, 5000);
        Calls.due("both are done", x.outcome(), 1);
        LinkedCores y = Calls.good("PLACED PAR\n  PROCESSOR 0\n    SKIP\n  PROCESSOR 1\n    INT x:\n    x := 1 / x");
        y.run(0, 9);
        Calls.due("not yet", y.outcome(), 0);
        y.run(1, 99);
        Calls.due("an error is ahead of all", y.outcome(), 3);
        LinkedCores z = Calls.good("PLACED PAR\n  PROCESSOR 0\n    SKIP\n  PROCESSOR 1\n    STOP");
        z.rounds(99);
        Calls.due("one has stopped", z.outcome(), 2);
    }

    private static void channels() {
        Calls.finish("CHAN c:\nINT x:\nSEQ\n  PAR\n    c ! 5\n    c ? x\n  screen ! x", 1, "5");
        Calls.finish("CHAN c:\nINT x:\nSEQ\n  PAR\n    c ? x\n    c ! 5\n  screen ! x", 1, "5");
        Calls.finish("[5]CHAN c:\nPAR\n  SEQ i = 0 FOR 3\n    c[0] ! i\n  PAR i = 0 FOR 4\n    SEQ j = 0 FOR 3\n      INT x:\n      SEQ\n"
            + "        c[i] ? x\n        c[i + 1] ! x + 10\n  SEQ j = 0 FOR 3\n    INT x:\n    SEQ\n      c[4] ? x\n      screen ! x", 1, "40 41 42");
        Calls.finish("CHAN c:\nPAR\n  c ! 1\n  SKIP", 2, "");
        // an OUT waits: its value in W - 2, its descriptor in the channel
        LinkedCores x = Calls.good("CHAN c:\nPAR\n  c ! 77\n  INT x:\n  c ? x");
        int w = x.processor(0, 3);
        int sender = w - 4;
        int taker = w - 3 - 4 - 2;
        x.run(0, 5);
        Calls.till(x, 0, () -> x.word(0, w + 1) != -1);
        Calls.due("the channel", x.word(0, w + 1), 2 * sender + 1);
        Calls.due("the value", x.word(0, sender - 2), 77);
        Calls.due("not in ALT", x.word(0, sender - 3), 0);
        Calls.due("the taker runs", x.core(0, 6), 2 * taker + 1);
        Calls.due("from its beginning", x.core(0, 0) + " " + x.core(0, 1) + " " + x.core(0, 2) + " " + x.core(0, 5) + " " + x.core(0, 12), "0 0 0 0 0");
        Calls.till(x, 0, () -> x.word(0, w + 1) == -1);
        Calls.due("it went over", x.word(0, taker + 1), 77);
        Calls.due("the sender is ready", x.ready(0, 0), 2 * sender + 1);
        Calls.due("the taker goes on", x.core(0, 6), 2 * taker + 1);
        Calls.due("done", x.run(0, 99) > 0 ? x.outcome() : 0, 1);
    }

    private static void alternatives() {
        String two = "CHAN a, b:\nINT x:\nPAR\n  %s\n  ALT\n    a ? x\n      screen ! x + 100\n    b ? x\n      screen ! x + 200";
        Calls.finish(String.format(two, "a ! 1"), 1, "101");
        Calls.finish(String.format(two, "b ! 2"), 1, "202");
        String late = "CHAN a, b:\nINT x:\nPAR\n  ALT\n    a ? x\n      screen ! x + 100\n    b ? x\n      screen ! x + 200\n  %s";
        Calls.finish(String.format(late, "a ! 1"), 1, "101");
        Calls.finish(String.format(late, "b ! 2"), 1, "202");
        Calls.finish(String.format(late, "STOP"), 2, "");
        // the first guard that can is taken
        Calls.finish("ALT\n  FALSE & SKIP\n    screen ! 1\n  TRUE & SKIP\n    screen ! 2\n  TRUE & SKIP\n    screen ! 3", 1, "2");
        Calls.finish("ALT\n  FALSE & SKIP\n    screen ! 1", 2, "");
        Calls.finish("INT x:\nCHAN a:\nPAR\n  a ! 1\n  SEQ\n    ALT\n      FALSE & a ? x\n        screen ! 1\n      TRUE & SKIP\n        screen ! 2\n"
            + "    a ? x\n    screen ! x", 1, "2 1");
        Calls.finish("INT x:\nCHAN a:\nPAR\n  a ! 4\n  ALT\n    a ? x\n      screen ! x\n    a ? x\n      screen ! 0 - x", 1, "4");
        Calls.finish("INT x:\nALT\n  keys ? x\n    screen ! x", 1, "9", 9);
        Calls.finish("INT x:\nALT\n  keys ? x\n    screen ! x", 2, "");
        LinkedCores k = Calls.good("INT x:\nCHAN c:\nALT\n  c ? x\n    SKIP\n  keys ? x\n    screen ! x");
        k.rounds(5000);
        int w = k.processor(0, 3);
        Calls.due("in ALT", k.word(0, w - 3), 2);
        Calls.due("it waits at keys", k.word(0, 13), 2 * w + 1);
        k.input(6);
        Calls.due("ready by the input", k.word(0, w - 3) + " " + k.core(0, 6), "3 " + (2 * w + 1));
        Calls.due("its word stays until DISC", k.word(0, 13), 2 * w + 1);
        Calls.due("not taken yet", k.about(1), 0);
        k.rounds(5000);
        Calls.due("done", k.outcome() + " " + Calls.outputs(k) + " " + k.about(1) + " " + k.word(0, 13), "1 6 1 -1");
        Calls.due("ALT is over", k.word(0, w - 3), 0);
        linkAlternative();
    }

    private static void linkAlternative() {
        String text = "LINK l FROM 1 TO 0:\nPLACED PAR\n  PROCESSOR 0\n    INT x:\n    CHAN c:\n    ALT\n      c ? x\n        SKIP\n      l ? x\n        screen ! x\n"
            + "  PROCESSOR 1\n    l ! 1000000";
        Calls.finish(text, 1, "1000000");
        LinkedCores x = Calls.good(text);
        int w = x.processor(0, 3);
        x.run(0, 5000);
        x.run(1, 5000);
        x.beat(6);
        Calls.due("three bytes came", x.word(0, w - 3), 2);
        x.beat(1);
        Calls.due("the fourth one", x.word(0, w - 3) + " " + x.link(0, 2) + " " + x.link(0, 3), "3 4 0");
        Calls.due("its word stays", x.word(0, 0), 2 * w + 1);
        Calls.due("nothing more goes", x.beat(5), 0);
        x.run(0, 5000);
        Calls.due("taken", Calls.outputs(x) + " " + x.link(0, 2) + " " + x.link(0, 3), "1000000 0 1");
        LinkedCores y = Calls.good(text);
        y.run(1, 5000);
        y.beat(9);
        y.run(0, 5000);
        Calls.due("a whole word is there", Calls.outputs(y), "1000000");
    }

    /** A LOW process gives way at a J when it has done 64 bytes and another one is ready. */
    private static void slices() {
        LinkedCores x = Calls.good("PAR\n  WHILE TRUE\n    SKIP\n  WHILE TRUE\n    SKIP");
        int w = x.processor(0, 3);
        int one = 2 * (w - 4) + 1;
        int two = 2 * (w - 8) + 1;
        Calls.till(x, 0, () -> x.core(0, 6) == one);
        Calls.due("the other one is ready", x.ready(0, 0), two);
        // a turn is LDC 1, CJ, J -4: four bytes, so the 16th J ends a slice
        Calls.due("63 bytes", x.run(0, 63), 63);
        Calls.due("still", x.core(0, 6) + " " + x.core(0, 12), one + " 63");
        x.run(0, 1);
        Calls.due("the other one", x.core(0, 6) + " " + x.core(0, 12), two + " 0");
        Calls.due("the first one is ready", x.ready(0, 0) + " " + x.core(0, 10), one + " 1");
        x.run(0, 64);
        Calls.due("back again", x.core(0, 6) + " " + x.core(0, 12), one + " 0");
        LinkedCores y = Calls.good("WHILE TRUE\n  SKIP");
        y.run(0, 300);
        Calls.due("alone it goes on", y.core(0, 12), 300);
    }

    private static void priorities() {
        // the HIGH one runs when it is started; LOW ones when it waits
        Calls.finish("CHAN c:\nPRI PAR\n  SEQ\n    screen ! 1\n    INT x:\n    c ? x\n    screen ! 3\n  SEQ\n    SKIP\n    c ! 5\n    SKIP\n",
            1, "1 3");
        LinkedCores x = Calls.good("PRI PAR\n  SKIP\n  SKIP");
        int w = x.processor(0, 3);
        int high = 2 * (w - 4);
        int bytes = Calls.till(x, 0, () -> x.core(0, 6) == high);
        Calls.due("the HIGH one", x.core(0, 6), high);
        Calls.due("the LOW one is put aside", x.core(0, 9) + " " + x.core(0, 10) + " " + x.ready(0, 0), "0 1 " + (2 * w + 1));
        Calls.due("its I", x.word(0, w - 1), bytes);
        x.run(0, 3);
        Calls.due("it goes on", x.core(0, 6) + " " + x.core(0, 12), (2 * w + 1) + " 0");
        Calls.due("done", x.rounds(99) > 0 ? x.outcome() : 0, 1);
        // two HIGH ones, then LOW ones: the ready ones in order
        LinkedCores y = Calls.good("PRI PAR\n  PAR\n    SKIP\n    SKIP\n  PAR\n    SKIP\n    SKIP");
        boolean seen = false;
        for (int k = 0; k < 200 && y.outcome() == 0; k++) {
            y.rounds(1);
            if (y.core(0, 9) == 1 && y.core(0, 10) == 1) {
                seen = true;
                Calls.due("HIGH ones first", (y.ready(0, 0) & 1) + " " + (y.ready(0, 1) & 1), "0 1");
            }
        }
        Calls.due("it was seen", seen ? 1 : 0, 1);
    }

    /** A LOW process that is put aside between the bytes of an instruction has its O, A, B and C again. */
    private static void putAside() {
        String text = "LINK l FROM 1 TO 0:\nPLACED PAR\n  PROCESSOR 0\n    PRI PAR\n      INT x:\n      SEQ\n        l ? x\n        screen ! x\n"
            + "      INT y:\n      WHILE TRUE\n        y := (y + 1) * 1000000\n  PROCESSOR 1\n    l ! 5";
        int inside = 0;
        for (int k = 0; k < 24; k++) {
            LinkedCores x = Calls.good(text);
            x.run(0, 60 + k);
            x.run(1, 99);
            x.beat(6);
            String before = registers(x);
            int low = x.core(0, 6);
            inside += x.core(0, 5) != 0 ? 1 : 0;
            x.beat(1);
            Calls.due("the HIGH one runs", x.core(0, 6) & 1, 0);
            Calls.due("it begins with nothing", registers(x), "0 0 0 0");
            Calls.due("the LOW one is the first", x.ready(0, 0), low);
            Calls.till(x, 0, () -> x.core(0, 6) == low);
            Calls.due("as it was", registers(x), before);
            Calls.due("its bytes are counted anew", x.core(0, 12), 0);
            x.run(0, 3000);
            Calls.due("no harm", x.core(0, 7) + " " + Calls.outputs(x), "0 5");
        }
        Calls.due("some were between bytes", inside > 3 ? 1 : 0, 1);
        LinkedCores k = Calls.good("PRI PAR\n  INT x:\n  SEQ\n    keys ? x\n    screen ! x\n  WHILE TRUE\n    SKIP");
        k.run(0, 200);
        Calls.due("LOW", k.core(0, 6) & 1, 1);
        k.input(3);
        Calls.due("an input does it, too", k.core(0, 6) & 1, 0);
    }

    /** What was kept for one process is no other one's. */
    private static void asideOnce() {
        LinkedCores x = Calls.good("CHAN c:\nPRI PAR\n  INT x:\n  SEQ\n    keys ? x\n    screen ! x\n  PAR\n"
            + "    WHILE TRUE\n      SKIP\n    WHILE TRUE\n      SKIP");
        x.run(0, 200);
        Calls.till(x, 0, () -> x.core(0, 0) != 0);
        int low = x.core(0, 6);
        x.input(3);
        Calls.till(x, 0, () -> x.core(0, 6) == low);
        Calls.due("kept", x.core(0, 0) != 0 ? 1 : 0, 1);
        Calls.till(x, 0, () -> x.core(0, 6) != low);
        Calls.due("the other one begins with nothing", registers(x) + " " + x.core(0, 12), "0 0 0 0 0");
    }

    /** Words W - 3 that an earlier CALL left are cleared by STARTP, ENDP, and by waiting in IN or OUT. */
    private static void marks() {
        String dirt = "PROC dirt()\n  [20]INT a:\n  SEQ i = 0 FOR 20\n    a[i] := 2\n:\n";
        LinkedCores x = Calls.good(dirt + "PROC fork()\n  PAR\n    SKIP\n    SKIP\n:\nSEQ\n  dirt()\n  fork()\n");
        int w = x.processor(0, 3) - 7 - 4;
        x.run(0, 400);
        Calls.till(x, 0, () -> x.core(0, 4) == w);
        Calls.due("dirt", x.word(0, w - 3) + " " + x.word(0, w - 7) + " " + x.word(0, w - 11), "2 2 2");
        Calls.till(x, 0, () -> x.core(0, 10) >= 2);
        Calls.due("by STARTP", x.word(0, w - 3) + " " + x.word(0, w - 7) + " " + x.word(0, w - 11), "2 0 0");
        Calls.till(x, 0, () -> x.core(0, 6) == 2 * (w - 8) + 1);
        Calls.due("not by the first ENDP", x.word(0, w - 3), 2);
        Calls.till(x, 0, () -> x.core(0, 6) == 2 * w + 1);
        Calls.due("by the last ENDP", x.word(0, w - 3), 0);
        for (String line : new String[] {"keys ? r", "l ! r", "m ? r", "c ! r", "c ? r"}) {
            String c = line.substring(0, line.indexOf(' '));
            boolean own = c.equals("c");
            LinkedCores y = Calls.good(dirt + "PROC p(CHAN c, INT r)\n  c" + line.substring(line.indexOf(' ')) + "\n:\nLINK l FROM 0 TO 1:\n"
                + "LINK m FROM 1 TO 0:\nPLACED PAR\n  PROCESSOR 0\n    CHAN c:\n    INT r:\n    SEQ\n      dirt()\n      p(" + c + ", r)\n");
            int frame = y.processor(0, 3) - 7 - 3;
            y.run(0, 5000);
            int channel = own ? y.processor(0, 3) + 1 : c.equals("keys") ? 13 : c.equals("l") ? 0 : 1;
            Calls.due("waits at " + line, y.word(0, channel), 2 * frame + 1);
            Calls.due("cleared by " + line, y.word(0, frame - 3), 0);
            boolean sends = line.contains("!");
            Calls.due("value or address", y.word(0, frame - 2), sends ? 0 : y.processor(0, 3) + 2);
        }
    }

    private static String registers(LinkedCores x) {
        return x.core(0, 0) + " " + x.core(0, 1) + " " + x.core(0, 2) + " " + x.core(0, 5);
    }

    /** A link whose TO is no processor takes the word and keeps it. */
    private static void absentEnds() {
        LinkedCores x = Calls.good("LINK l FROM 0 TO 5:\nLINK m FROM 4 TO 0:\nPLACED PAR\n  PROCESSOR 0\n    l ! 9");
        x.rounds(5000);
        Calls.due("it waits for good", x.outcome(), 2);
        Calls.due("the word came", x.link(0, 2) + " " + x.link(0, 3) + " " + x.link(0, 4) + " " + x.link(0, 5), "4 0 1 9");
        Calls.due("packets", x.about(6), 7);
    }
}
