/** Terms 5 and promises 11, 12 and 16 to 18: what a core does at the edges of slices, rows, indexes, guards and numbers. */
public final class CoreBoundsTest {
    private static final int MAX = 2147483647;
    private static final int MIN = -MAX - 1;

    public static void main(String[] args) {
        slices();
        noSlices();
        slicesOfThree();
        slicesPutAside();
        numbers();
        zeroAndNot();
        checks();
        fills();
        counts();
        guards();
        keys();
        inputsInAlt();
        sendsInAlt();
        sendsInAltThatWaits();
        registers();
        registersAside();
        neighbours();
        wordsNearW();
        rows();
        nobodyRuns();
        ends();
        runs();
        memory();
        Calls.close();
    }

    /** The lines of a SEQ that comes to a J with the byte that is told. */
    private static String jumpAt(int bytes, String ahead) {
        int odd = bytes % 2 == 0 ? 1 : 0;
        return (ahead + "x := 0\n").repeat((bytes - 3 - 3 * odd) / 2) + (ahead + "x := 16\n").repeat(odd)
            + ahead + "IF\n" + ahead + "  TRUE\n" + ahead + "    SKIP\n" + ahead + "x := 1\n";
    }

    /** A J with the 64th byte or a later one ends a slice, one with the 63rd doesn't. */
    private static void slices() {
        for (int bytes : new int[] {5, 62, 63, 64, 65, 66, 100}) {
            LinkedCores x = Calls.good("INT x:\nPAR\n  SEQ\n" + jumpAt(bytes, "    ") + "  SKIP");
            int w = x.processor(0, 3);
            int one = 2 * (w - 4) + 1;
            int two = 2 * (w - 8) + 1;
            Calls.till(x, 0, () -> x.core(0, 6) == one);
            Calls.due("it begins", x.core(0, 12) + " " + x.ready(0, 0) + " " + x.core(0, 10), "0 " + two + " 1");
            x.run(0, bytes - 1);
            Calls.due("ahead of the J", x.core(0, 6) + " " + x.core(0, 12), one + " " + (bytes - 1));
            int i = x.core(0, 3);
            Calls.due("a J", x.instruction(0, i, 0) + " " + x.instruction(0, i, 2), "0 1");
            int behind = i + 1 + x.instruction(0, i, 1);
            x.run(0, 1);
            if (bytes < 64) {
                Calls.due("it goes on", x.core(0, 6) + " " + x.core(0, 12) + " " + x.core(0, 3), one + " " + bytes + " " + behind);
            } else {
                Calls.due("the other one runs", x.core(0, 6) + " " + x.core(0, 12), two + " 0");
                Calls.due("this one is ready", x.ready(0, 0) + " " + x.core(0, 10), one + " 1");
                Calls.due("its I", x.word(0, w - 5), behind);
            }
        }
    }

    /** No slice ends where no LOW one is ready, nor of a HIGH one. */
    private static void noSlices() {
        LinkedCores x = Calls.good("INT x:\nPAR\n  STOP\n  SEQ\n" + jumpAt(65, "    "));
        int two = 2 * (x.processor(0, 3) - 8) + 1;
        Calls.till(x, 0, () -> x.core(0, 6) == two);
        x.run(0, 65);
        Calls.due("none is ready", x.core(0, 6) + " " + x.core(0, 12) + " " + x.core(0, 10), two + " 65 0");
        LinkedCores y = Calls.good("INT x:\nPRI PAR\n  SEQ\n" + jumpAt(65, "    ") + "  SKIP");
        int high = 2 * (y.processor(0, 3) - 4);
        Calls.till(y, 0, () -> y.core(0, 6) == high);
        y.run(0, 65);
        Calls.due("a HIGH one, and a LOW one is ready", y.core(0, 6) + " " + y.core(0, 12) + " " + y.core(0, 10), high + " 65 1");
        LinkedCores z = Calls.good("INT x:\nPRI PAR\n  PAR\n    SEQ\n" + jumpAt(65, "      ") + "    SKIP\n  SKIP");
        Calls.till(z, 0, () -> z.core(0, 9) == 1 && z.core(0, 12) == 0);
        int first = z.core(0, 6);
        Calls.due("HIGH", first & 1, 0);
        z.run(0, 65);
        Calls.due("also where a HIGH one is ready", z.core(0, 6) + " " + z.core(0, 12) + " " + z.core(0, 9), first + " 65 1");
        // the first J behind the byte at which one is ready again
        LinkedCores k = Calls.good("INT x:\nPAR\n  keys ? x\n  WHILE TRUE\n    SKIP");
        k.run(0, 300);
        int loop = k.core(0, 6);
        int since = k.core(0, 12);
        Calls.due("alone for long", since > 200 ? 1 : 0, 1);
        k.input(4);
        Calls.due("an input doesn't end a slice", k.core(0, 6) + " " + k.core(0, 12) + " " + k.core(0, 10), loop + " " + since + " 1");
        Calls.till(k, 0, () -> k.core(0, 6) != loop);
        Calls.due("the J does", k.core(0, 11) - 300 <= 4 ? 1 : 0, 1);
        Calls.due("the loop is ready", k.ready(0, 0), loop);
    }

    /** To the end of LOW, and the first one runs. */
    private static void slicesOfThree() {
        LinkedCores x = Calls.good("PAR i = 0 FOR 3\n  WHILE TRUE\n    SKIP");
        int w = x.processor(0, 3);
        int a = 2 * (w - 4) + 1;
        int b = 2 * (w - 8) + 1;
        int c = 2 * (w - 12) + 1;
        Calls.till(x, 0, () -> x.core(0, 6) == a);
        int[][] turns = {{b, c, a}, {c, a, b}, {a, b, c}, {b, c, a}};
        for (int[] turn : turns) {
            x.run(0, 64);
            Calls.due("a turn", x.core(0, 6) + " " + x.ready(0, 0) + " " + x.ready(0, 1), turn[0] + " " + turn[1] + " " + turn[2]);
            Calls.refused("no third one", Calls.INDEX, () -> x.ready(0, 2));
        }
    }

    /** Bytes are counted from being put aside on. */
    private static void slicesPutAside() {
        for (int bytes : new int[] {4, 60, 64}) {
            LinkedCores x = Calls.good("PRI PAR\n  INT x:\n  keys ? x\n  PAR\n    WHILE TRUE\n      SKIP\n    WHILE TRUE\n      SKIP");
            x.run(0, 100);
            Calls.till(x, 0, () -> x.core(0, 12) == 0);
            int one = x.core(0, 6);
            int two = x.ready(0, 0);
            x.run(0, bytes);
            int there = bytes == 64 ? two : one;
            Calls.due("LOW", x.core(0, 6) + " " + x.core(0, 12), there + " " + bytes % 64);
            x.input(1);
            Calls.due("HIGH", x.core(0, 6) & 1, 0);
            Calls.due("the first LOW one", x.ready(0, 0), there);
            Calls.till(x, 0, () -> x.core(0, 6) == there);
            Calls.due("anew", x.core(0, 12), 0);
            x.run(0, 63);
            Calls.due("63", x.core(0, 6) + " " + x.core(0, 12), there + " 63");
            x.run(0, 1);
            Calls.due("64", x.core(0, 6) == there ? 1 : 0, 0);
        }
    }

    private static void shows(String e, int want, int... inputs) {
        Calls.finish("INT x, y:\nSEQ\n  keys ? x\n  keys ? y\n  screen ! " + e, 1, "" + want, inputs);
    }

    /** Numbers wrap; those that are compared don't. */
    private static void numbers() {
        int[] all = {MIN, MIN + 1, -2, -1, 0, 1, 2, 31, 32, 33, MAX - 1, MAX};
        for (int x : all) {
            for (int y : new int[] {MIN, -1, 0, 1, 31, 32, 63, MAX}) {
                shows("x + y", x + y, x, y);
                shows("x - y", x - y, x, y);
                shows("x * y", x * y, x, y);
                shows("x << y", x << (y & 31), x, y);
                shows("x >> y", (int) ((x & 0xffffffffL) >> (y & 31)), x, y);
                shows("x /\\ y", x & y, x, y);
                shows("x \\/ y", x | y, x, y);
                shows("x > y", x > y ? 1 : 0, x, y);
                shows("x < y", x < y ? 1 : 0, x, y);
                shows("x <= y", x <= y ? 1 : 0, x, y);
                shows("x >= y", x >= y ? 1 : 0, x, y);
                shows("x = y", x == y ? 1 : 0, x, y);
                shows("x <> y", x != y ? 1 : 0, x, y);
                shows("x AND y", x != 0 && y != 0 ? 1 : 0, x, y);
                shows("x OR y", x != 0 || y != 0 ? 1 : 0, x, y);
                if (y != 0) {
                    shows("x / y", (int) ((long) x / y), x, y);
                    shows("x \\ y", (int) ((long) x % y), x, y);
                }
            }
            shows("- x", -x, x, 0);
            shows("NOT x", x == 0 ? 1 : 0, x, 0);
        }
        for (String e : new String[] {"x / y", "x \\ y"}) {
            for (int x : new int[] {MIN, 0, 1}) {
                Calls.finish("INT x, y:\nSEQ\n  keys ? x\n  keys ? y\n  screen ! " + e, 3, "", x, 0);
            }
        }
    }

    /** 0 is false, and all else is true: of IF, WHILE, AND, OR and guards. */
    private static void zeroAndNot() {
        for (int v : new int[] {MIN, -1, 0, 1, 2, 256, MAX}) {
            int want = v == 0 ? 2 : 1;
            Calls.finish("INT x:\nSEQ\n  keys ? x\n  IF\n    x\n      screen ! 1\n    TRUE\n      screen ! 2", 1, "" + want, v);
            Calls.finish("INT x:\nSEQ\n  keys ? x\n  WHILE x\n    SEQ\n      screen ! 1\n      x := 0\n  screen ! 2", 1, v == 0 ? "2" : "1 2", v);
            Calls.finish("INT x:\nSEQ\n  keys ? x\n  ALT\n    x & SKIP\n      screen ! 1\n    TRUE & SKIP\n      screen ! 2", 1, "" + want, v);
            Calls.finish("INT x:\nSEQ\n  keys ? x\n  ALT\n    x & keys ? x\n      screen ! 1\n    TRUE & SKIP\n      screen ! 2", 1, "" + want, v, 5);
            Calls.finish("INT x:\nSEQ\n  keys ? x\n  IF\n    x\n      screen ! 1", v == 0 ? 3 : 1, v == 0 ? "" : "1", v);
        }
    }

    /** An index is 0 .. size less 1, of each size, where it is read, written, sent on, taken from or given. */
    private static void checks() {
        for (int size : new int[] {1, 2, 64}) {
            String row = "PROC p(INT r)\n  r := 9\n:\nPROC q([" + size + "]INT t, VAL INT v)\n  t[v] := 9\n:\n[" + size + "]INT a:\n[" + size + "]CHAN c:\nINT x, y:\nSEQ\n  keys ? x\n  ";
            String[] uses = {"y := a[x]", "a[x] := 9", "p(a[x])", "q(a, x)", "keys ? a[x]", "ALT\n    FALSE & c[x] ? y\n      SKIP\n    TRUE & SKIP\n      SKIP",
                "PAR\n    c[x] ! 1\n    c[x] ? y"};
            for (String use : uses) {
                for (int index : new int[] {0, size - 1, -1, size, MIN, MAX}) {
                    boolean there = index >= 0 && index < size;
                    Calls.finish(row + use + "\n  screen ! 7", there ? 1 : 3, there ? "7" : "", index, 5);
                }
            }
        }
        // what is beyond is left alone
        LinkedCores x = Calls.good("INT x:\n[3]INT a:\nINT y:\nSEQ\n  keys ? x\n  a[x] := 9");
        x.input(3);
        x.rounds(5000);
        int w = x.processor(0, 3);
        Calls.due("an error", x.outcome() + " " + x.core(0, 7) + " " + x.core(0, 8) + " " + x.core(0, 6), "3 1 0 -1");
        Calls.due("nothing was written", x.word(0, w + 2) + " " + x.word(0, w + 4) + " " + x.word(0, w + 5), "0 0 0");
    }

    /** As many words as there are elements, and none beside them. */
    private static void fills() {
        LinkedCores x = Calls.good("INT p, q:\nSEQ\n  p := 5\n  q := 6\n  SEQ i = 0 FOR 2\n    [3]INT a:\n    [2]CHAN c:\n    INT r:\n    SEQ\n"
            + "      screen ! (a[0] + a[1]) + (a[2] + r)\n      SEQ j = 0 FOR 3\n        a[j] := 7\n      r := 8\n  screen ! p\n  screen ! q");
        x.rounds(5000);
        Calls.due("0 each time", Calls.outputs(x), "0 0 5 6");
        int w = x.processor(0, 3);
        Calls.due("the words", x.word(0, w + 1) + " " + x.word(0, w + 2) + " " + x.word(0, w + 5) + " " + x.word(0, w + 7) + " " + x.word(0, w + 8) + " "
            + x.word(0, w + 9) + " " + x.word(0, w + 10), "5 6 7 7 -1 -1 8");
        for (int size : new int[] {1, 64}) {
            LinkedCores y = Calls.good("INT x:\n[" + size + "]CHAN c:\nINT y:\nSKIP");
            y.rounds(5000);
            int first = y.processor(0, 3) + 1;
            Calls.due("beside", y.word(0, first) + " " + y.word(0, first + 1 + size), "0 0");
            Calls.due("channels", y.word(0, first + 1) + " " + y.word(0, first + size), "-1 -1");
        }
    }

    /** SEQ goes on while how often is above 0; its index wraps. */
    private static void counts() {
        String text = "INT n:\nSEQ\n  keys ? n\n  SEQ i = 5 FOR n\n    screen ! i";
        Calls.finish(text, 1, "5 6 7", 3);
        Calls.finish(text, 1, "5", 1);
        Calls.finish(text, 1, "", 0);
        Calls.finish(text, 1, "", -1);
        Calls.finish(text, 1, "", MIN);
        Calls.finish("SEQ i = 2147483647 FOR 3\n  screen ! i", 1, MAX + " " + MIN + " " + (MIN + 1));
        // both are told once, ahead of the first turn
        Calls.finish("INT n, m:\nSEQ\n  n := 3\n  m := 10\n  SEQ i = m FOR n\n    SEQ\n      n := 9\n      m := 9\n      screen ! i", 1, "10 11 12");
    }

    /** One guard to eight; the first that can goes; with none it waits for good. */
    private static void guards() {
        for (int many : new int[] {1, 2, 8}) {
            for (int good = 0; good <= many; good++) {
                StringBuilder text = new StringBuilder("ALT\n");
                for (int k = 0; k < many; k++) {
                    text.append(k >= good ? "  TRUE" : "  FALSE").append(" & SKIP\n    screen ! ").append(k).append('\n');
                }
                Calls.finish(text.toString(), good < many ? 1 : 2, good < many ? "" + good : "");
            }
        }
        LinkedCores x = Calls.good("INT y:\nCHAN c:\nALT\n  FALSE & c ? y\n    SKIP\n  FALSE & keys ? y\n    SKIP\n  FALSE & SKIP\n    SKIP");
        x.input(3);
        x.rounds(5000);
        int w = x.processor(0, 3);
        Calls.due("it waits for good", x.outcome() + " " + x.word(0, w - 3) + " " + x.word(0, 13) + " " + x.word(0, w + 2), "2 2 -1 -1");
        x.input(4);
        Calls.due("also when one comes", x.outcome() + " " + x.word(0, w - 3) + " " + x.about(1), "2 2 0");
    }

    /** keys: the inputs in their order, each once; one that waits is ready when one comes. */
    private static void keys() {
        LinkedCores x = Calls.good("INT x:\nSEQ i = 0 FOR 3\n  SEQ\n    keys ? x\n    screen ! x");
        Calls.due("one", x.input(MIN), 1);
        Calls.due("none was taken", x.about(1), 0);
        x.run(0, 5000);
        Calls.due("it took it and waits", x.about(1) + " " + x.core(0, 6) + " " + x.word(0, 13), "1 -1 " + (2 * x.processor(0, 3) + 1));
        Calls.due("two", x.input(MAX), 2);
        Calls.due("it went over", x.about(1) + " " + x.word(0, x.processor(0, 3) + 1) + " " + x.word(0, 13), "2 " + MAX + " -1");
        Calls.due("it runs at once", x.core(0, 6), 2 * x.processor(0, 3) + 1);
        x.input(0);
        x.input(7);
        x.run(0, 5000);
        Calls.due("in order", Calls.outputs(x) + " " + x.about(1) + " " + x.outcome(), MIN + " " + MAX + " 0 3 1");
        Calls.due("also behind its end", x.input(1), 5);
    }

    /** An input meets a process in ALT whose word W - 3 is 1, 2 or 3. */
    private static void inputsInAlt() {
        String text = "INT x:\nCHAN c:\nALT\n  c ? x\n    SKIP\n  keys ? x\n    screen ! x";
        LinkedCores x = Calls.good(text);
        int w = x.processor(0, 3);
        int me = 2 * w + 1;
        Calls.till(x, 0, () -> x.word(0, 13) == me);
        Calls.due("1", x.word(0, w - 3), 1);
        x.input(5);
        Calls.due("3, and it runs as before", x.word(0, w - 3) + " " + x.core(0, 6) + " " + x.core(0, 10) + " " + x.word(0, 13), "3 " + me + " 0 " + me);
        x.run(0, 5000);
        Calls.due("taken", Calls.outputs(x) + " " + x.outcome(), "5 1");
        LinkedCores y = Calls.good(text);
        y.run(0, 5000);
        Calls.due("2", y.word(0, w - 3) + " " + y.core(0, 6), "2 -1");
        y.input(6);
        Calls.due("it is ready, and runs", y.word(0, w - 3) + " " + y.core(0, 6) + " " + y.core(0, 10) + " " + y.word(0, 13), "3 " + me + " 0 " + me);
        y.input(7);
        Calls.due("not twice", y.word(0, w - 3) + " " + y.core(0, 6) + " " + y.core(0, 10) + " " + y.about(1), "3 " + me + " 0 0");
        y.run(0, 5000);
        Calls.due("the first one", Calls.outputs(y) + " " + y.about(1) + " " + y.outcome() + " " + y.word(0, 13), "6 1 1 -1");
        LinkedCores z = Calls.good(text);
        z.input(8);
        Calls.till(z, 0, () -> z.word(0, w - 3) == 3);
        Calls.due("there already: as of one that sends", z.word(0, 13), -1);
        z.run(0, 5000);
        Calls.due("taken", Calls.outputs(z) + " " + z.outcome(), "8 1");
    }

    private static final String HIGHS = "INT x, y, z:\nCHAN c, d, g:\nPRI PAR\n  PAR\n    SEQ\n      keys ? x\n      g ! 2\n      c ! x\n    SEQ\n      g ? y\n      d ! y\n"
        + "  ALT\n    d ? z\n      screen ! z\n    c ? z\n      screen ! z";

    /** OUTs of HIGH ones meet a LOW one in ALT whose word W - 3 is 1, then 3. */
    private static void sendsInAlt() {
        LinkedCores x = Calls.good(HIGHS);
        int w = x.processor(0, 3);
        x.run(0, 60);
        // the channels c and d are words 4 and 5; both are enabled, ALTWT is not done yet
        Calls.till(x, 0, () -> x.word(0, w + 4) != -1);
        int low = x.core(0, 6);
        int mark = (low >> 1) - 3;
        Calls.due("LOW, in ALT", (low & 1) + " " + x.word(0, mark) + " " + (x.word(0, w + 4) == low) + " " + (x.word(0, w + 5) == low), "1 1 true true");
        x.input(44);
        Calls.due("put aside", x.ready(0, 0) + " " + x.core(0, 10), low + " 1");
        Calls.till(x, 0, () -> x.word(0, w + 4) != low);
        Calls.due("the sender waits in its place", (x.word(0, w + 4) & 1) + " " + x.word(0, mark), "0 3");
        Calls.due("the LOW one is ready once", x.core(0, 10) + " " + x.ready(0, x.core(0, 9)), "1 " + low);
        Calls.till(x, 0, () -> x.word(0, w + 5) != low);
        Calls.due("and the other one", (x.word(0, w + 5) & 1) + " " + x.word(0, mark) + " " + x.core(0, 10), "0 3 0");
        Calls.due("it runs again", x.core(0, 6), low);
        x.run(0, 5000);
        Calls.due("the first guard is taken", Calls.outputs(x), "2");
        Calls.due("the other sender still waits", (x.word(0, w + 4) & 1) + " " + x.word(0, w + 5) + " " + x.outcome(), "0 -1 2");
    }

    /** The same, and the one in ALT waits: 2, then 3. */
    private static void sendsInAltThatWaits() {
        LinkedCores x = Calls.good(HIGHS);
        int w = x.processor(0, 3);
        x.run(0, 5000);
        int low = x.word(0, w + 4);
        int mark = (low >> 1) - 3;
        Calls.due("it waits", x.word(0, mark) + " " + x.core(0, 6), "2 -1");
        x.input(45);
        Calls.till(x, 0, () -> x.word(0, w + 4) != low);
        Calls.due("ready", x.word(0, mark) + " " + x.core(0, 10) + " " + x.ready(0, x.core(0, 9)), "3 1 " + low);
        Calls.till(x, 0, () -> x.word(0, w + 5) != low);
        Calls.due("once", x.word(0, mark) + " " + x.core(0, 10) + " " + x.core(0, 6), "3 0 " + low);
        x.run(0, 5000);
        Calls.due("the first guard", Calls.outputs(x) + " " + x.outcome(), "2 2");
    }

    private static String stack(LinkedCores x) {
        return x.core(0, 0) + " " + x.core(0, 1) + " " + x.core(0, 2) + " " + x.core(0, 5);
    }

    /** What operations leave; and who runs next begins with nothing. */
    private static void registers() {
        LinkedCores x = Calls.good("[3]CHAN c:\nSKIP");
        x.run(0, 4);
        Calls.due("ahead of FILL", stack(x), (x.processor(0, 3) + 1) + " 3 -1 0");
        x.run(0, 1);
        Calls.due("FILL", stack(x), "0 0 0 0");
        LinkedCores y = Calls.good("PAR\n  SKIP\n  SKIP");
        Calls.till(y, 0, () -> y.core(0, 10) == 1);
        Calls.due("STARTP takes both", stack(y), "0 0 0 0");
        LinkedCores z = Calls.good("INT x:\nkeys ? x");
        z.input(5);
        Calls.till(z, 0, () -> z.about(1) == 1);
        Calls.due("IN takes both", stack(z), "0 0 0 0");
        // a third register that isn't 0, and then a process that is gone
        for (String last : new String[] {"STOP", "keys ? x", "x := 1 / 0", "ALT\n    FALSE & SKIP\n      SKIP", "SKIP"}) {
            LinkedCores g = Calls.good("[3]INT a:\nINT x:\nSEQ\n  a[2] := 5\n  " + last);
            Calls.till(g, 0, () -> g.core(0, 2) == 5);
            g.run(0, 5000);
            Calls.due("none runs", stack(g) + " " + g.core(0, 6), "0 0 0 0 -1");
        }
        LinkedCores n = Calls.good("[3]INT a:\nPAR\n  SEQ\n    a[2] := 5\n    STOP\n  SKIP");
        int two = 2 * (n.processor(0, 3) - 8) + 1;
        Calls.till(n, 0, () -> n.core(0, 6) == two);
        Calls.due("the next one", stack(n) + " " + n.core(0, 12), "0 0 0 0 0");
    }

    /** A, B, C and O of a LOW one are kept over each byte at which a HIGH one may come. */
    private static void registersAside() {
        boolean full = false;
        for (int bytes = 0; bytes < 24; bytes++) {
            LinkedCores x = Calls.good("[64]INT a:\nINT x:\nPRI PAR\n  keys ? x\n  WHILE TRUE\n    a[40] := 500");
            x.run(0, 120 + bytes);
            int low = x.core(0, 6);
            String before = stack(x) + " " + x.core(0, 3) + " " + x.core(0, 4);
            full |= x.core(0, 2) == 500 && x.core(0, 5) == 0 && x.core(0, 1) == 40;
            x.input(1);
            Calls.due("HIGH begins with nothing", stack(x) + " " + (x.core(0, 6) & 1), "0 0 0 0 0");
            Calls.due("its I", x.word(0, (low >> 1) - 1), Integer.parseInt(before.split(" ")[4]));
            Calls.till(x, 0, () -> x.core(0, 6) == low);
            Calls.due("as it was", stack(x) + " " + x.core(0, 3) + " " + x.core(0, 4), before);
            x.run(0, 5000);
            Calls.due("no harm", x.core(0, 7) + " " + x.word(0, x.processor(0, 3) + 41), "0 500");
        }
        Calls.due("all three were kept", full ? 1 : 0, 1);
    }

    /** FILL leaves the words beside alone: those of the frame around lie right above a branch's. */
    private static void neighbours() {
        for (int size : new int[] {1, 2, 64}) {
            LinkedCores x = Calls.good("PAR\n  [" + size + "]CHAN c:\n  SKIP\n  [" + size + "]CHAN c:\n  SKIP");
            x.run(0, 5000);
            int w = x.processor(0, 3);
            int one = w - 3 - 1 - size;
            int two = one - 3 - 1 - size;
            Calls.due("done", x.outcome(), 1);
            Calls.due("the last element and the word above", x.word(0, one + size) + " " + x.word(0, one + size + 1), "-1 0");
            Calls.due("of the second branch", x.word(0, two + size) + " " + x.word(0, two + size + 1), "-1 0");
            Calls.due("word 0 and the first element", x.word(0, one) + " " + x.word(0, one + 1), "0 -1");
        }
    }

    /** W - 3 alone tells of ALT, whatever the other words near W are. */
    private static void wordsNearW() {
        for (int v = 0; v <= 4; v++) {
            String set = "    INT a, b, c, d, e, f:\n    SEQ\n      a := " + v + "\n      b := " + v + "\n      c := " + v + "\n      d := " + v + "\n      e := " + v + "\n      f := "
                + v + "\n";
            Calls.finish("CHAN ch:\nPAR\n  SEQ\n" + set + "      ch ? a\n      screen ! a + f\n  SEQ\n    ch ! 50\n    ch ! 60\n", 2, "" + (50 + v));
            Calls.finish("CHAN ch:\nPAR\n  SEQ\n" + set + "      ALT\n        ch ? a\n          screen ! a + f\n  SEQ\n    ch ! 50\n    ch ! 60\n", 2, "" + (50 + v));
            Calls.finish("CHAN ch:\nPAR\n  SEQ\n" + set + "      ch ! a + 50\n      ch ! b + 60\n  INT x:\n  SEQ\n    ch ? x\n    screen ! x\n    ch ? x\n    screen ! x\n", 1,
                (50 + v) + " " + (60 + v));
            Calls.finish("SEQ\n" + set.replace("\n    ", "\n  ").substring(2) + "    keys ? a\n    screen ! a\n    ALT\n      keys ? a\n        screen ! a", 1, "7 8", 7, 8);
        }
    }

    /** The rows: HIGH ones first, each in order, and nothing beyond. */
    private static void rows() {
        LinkedCores x = Calls.good("PRI PAR\n  PAR i = 0 FOR 8\n    SKIP\n  PAR i = 0 FOR 8\n    SKIP");
        Calls.refused("none is ready", Calls.INDEX, () -> x.ready(0, 0));
        Calls.till(x, 0, () -> x.core(0, 9) == 8);
        Calls.due("LOW", x.core(0, 10), 1);
        int low = 2 * x.processor(0, 3) + 1;
        int high = (x.core(0, 6) >> 1) - 4;
        for (int k = 0; k < 8; k++) {
            Calls.due("HIGH " + k, x.ready(0, k), 2 * (high - 4 * k));
        }
        Calls.due("the LOW one", x.ready(0, 8), low);
        Calls.refused("no more", Calls.INDEX, () -> x.ready(0, 9));
        Calls.refused("below", Calls.INDEX, () -> x.ready(0, -1));
        x.run(0, 5000);
        Calls.due("done", x.outcome() + " " + x.core(0, 9) + " " + x.core(0, 10), "1 0 0");
        LinkedCores y = Calls.good("PAR i = 0 FOR 8\n  PAR j = 0 FOR 8\n    SKIP");
        int most = 0;
        for (int k = 0; k < 100; k++) {
            y.run(0, 8);
            most = Math.max(most, y.core(0, 10));
        }
        Calls.due("many are ready", most > 40 ? 1 : 0, 1);
        y.run(0, 5000);
        Calls.due("all end", y.outcome(), 1);
    }

    /** 0 to 5 and 12 are 0 if none runs; 6 is NONE. */
    private static void nobodyRuns() {
        for (String text : new String[] {"STOP", "SKIP", "INT x:\nx := 1 / 0", "INT x:\nkeys ? x", "CHAN c:\nc ! 70000", "ALT\n  FALSE & SKIP\n    SKIP"}) {
            LinkedCores x = Calls.good(text);
            x.run(0, 5000);
            for (int what = 0; what <= 12; what++) {
                if (what <= 5 || what == 9 || what == 10 || what == 12) {
                    Calls.due(text + ": core " + what, x.core(0, what), 0);
                }
            }
            Calls.due(text + ": none runs", x.core(0, 6), -1);
            Calls.due(text + ": error, DONE", x.core(0, 7) + " " + x.core(0, 8), (text.contains("/") ? 1 : 0) + " " + (text.equals("SKIP") ? 1 : 0));
            int bytes = x.core(0, 11);
            Calls.due(text + ": no byte more", x.run(0, 5000) + " " + x.core(0, 11), "0 " + bytes);
            Calls.refused(text + ": none is ready", Calls.INDEX, () -> x.ready(0, 0));
        }
        LinkedCores x = Calls.good("SKIP");
        for (int what : new int[] {MIN, -1, 13, MAX}) {
            Calls.refused("core " + what, Calls.ARGUMENT, () -> x.core(0, what));
        }
    }

    /** The last ENDP brings the process behind its PAR to the end of its row. */
    private static void ends() {
        for (int many = 1; many <= 8; many++) {
            LinkedCores x = Calls.good("SEQ\n  PAR i = 0 FOR " + many + "\n    SKIP\n  screen ! 5");
            int w = x.processor(0, 3);
            int n = many;
            Calls.till(x, 0, () -> x.core(0, 10) == n);
            for (int left = many; left > 0; left--) {
                int still = left;
                Calls.till(x, 0, () -> x.word(0, w + 2) < still);
                Calls.due("one less", x.word(0, w + 2), left - 1);
                Calls.due("behind", x.core(0, 6) == 2 * w + 1 ? 1 : 0, left == 1 ? 1 : 0);
            }
            x.run(0, 5000);
            Calls.due("done", x.outcome() + " " + Calls.outputs(x), "1 5");
        }
        LinkedCores y = Calls.good("PAR\n  PAR\n    SKIP\n    SKIP\n  WHILE TRUE\n    SKIP\n  WHILE TRUE\n    SKIP");
        int w = y.processor(0, 3);
        // the first branch has size 4 and depth 3 + 4 + 4
        int first = 2 * (w - 3 - 4) + 1;
        int second = 2 * (w - 3 - 18 - 1) + 1;
        int third = second - 8;
        Calls.till(y, 0, () -> y.core(0, 6) == first);
        y.run(0, 5);
        Calls.till(y, 0, () -> y.core(0, 10) == 4);
        Calls.due("the inner ones behind the others", y.ready(0, 0) + " " + y.ready(0, 1), second + " " + third);
        for (int k = 0; k < 12 && y.ready(0, y.core(0, 10) - 1) != first; k++) {
            y.run(0, 16);
        }
        Calls.due("to the end of LOW", y.ready(0, y.core(0, 10) - 1), first);
    }

    /** run: 0 .. 5000 bytes. */
    private static void runs() {
        LinkedCores x = Calls.good("WHILE TRUE\n  SKIP");
        Calls.due("0", x.run(0, 0) + " " + x.core(0, 11), "0 0");
        Calls.due("1", x.run(0, 1) + " " + x.core(0, 11), "1 1");
        Calls.due("4999", x.run(0, 4999) + " " + x.core(0, 11), "4999 5000");
        Calls.due("5000", x.run(0, 5000) + " " + x.core(0, 11) + " " + x.core(0, 12), "5000 10000 10000");
        for (int n : new int[] {MIN, -1, 5001, MAX}) {
            Calls.refused("run " + n, Calls.ARGUMENT, () -> x.run(0, n));
        }
        Calls.due("no more", x.core(0, 11) + " " + x.about(5), "10000 0");
        LinkedCores y = Calls.good("SKIP");
        Calls.due("as many as there are", y.run(0, 2) + " " + y.core(0, 6), "2 -1");
        Calls.due("none", y.run(0, 5000), 0);
        LinkedCores z = Calls.good("SKIP");
        Calls.due("two of three", z.run(0, 3), 2);
    }

    /** All words are there from 0 on, the 16 ahead too, and no more. */
    private static void memory() {
        LinkedCores x = Calls.good("[3]INT a:\na[2] := 77");
        int words = x.processor(0, 1);
        Calls.due("words", words, 7);
        for (int k = 0; k < 16 + words; k++) {
            Calls.due("word " + k, x.word(0, k), k <= 13 ? -1 : 0);
        }
        for (int k : new int[] {MIN, -1, 16 + words, 17 + words, MAX}) {
            Calls.refused("word " + k, Calls.INDEX, () -> x.word(0, k));
        }
        x.run(0, 5000);
        Calls.due("the last word", x.word(0, 15 + words), 77);
    }
}
