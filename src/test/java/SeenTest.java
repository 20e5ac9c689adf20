/** Promises 16 to 20: what is seen of a core, its rows and words, the outputs and the numbers. */
public final class SeenTest {
    public static void main(String[] args) {
        registers();
        operations();
        ready();
        words();
        outputs();
        about();
        Calls.close();
    }

    private static String registers(LinkedCores x) {
        StringBuilder all = new StringBuilder();
        for (int what = 0; what <= 12; what++) {
            all.append(what == 0 ? "" : " ").append(x.core(0, what));
        }
        return all.toString();
    }

    private static void registers() {
        LinkedCores x = Calls.good("PROC p()\n  SKIP\n:\nINT x:\nx := 1 + 16");
        int start = x.processor(0, 2);
        int w = x.processor(0, 3);
        String end = " " + w + " 0 " + (2 * w + 1) + " 0 0 0 0 ";
        Calls.due("at first", registers(x), "0 0 0 " + start + end + "0 0");
        x.run(0, 1);
        Calls.due("LDC 0", registers(x), "0 0 0 " + (start + 1) + end + "1 1");
        x.run(0, 2);
        Calls.due("LDLP 1", registers(x), (w + 1) + " 1 0 " + (start + 3) + end + "3 3");
        x.run(0, 2);
        Calls.due("FILL, LDC 1", registers(x), "1 0 0 " + (start + 5) + end + "5 5");
        x.run(0, 1);
        Calls.due("PFIX 1", registers(x), "1 0 0 " + (start + 6) + " " + w + " 16 " + (2 * w + 1) + " 0 0 0 0 6 6");
        x.run(0, 1);
        Calls.due("LDC 16", registers(x), "16 1 0 " + (start + 7) + end + "7 7");
        x.run(0, 1);
        Calls.due("ADD", registers(x), "17 0 0 " + (start + 8) + end + "8 8");
        x.run(0, 99);
        Calls.due("none runs", registers(x), "0 0 0 0 0 0 -1 0 1 0 0 11 0");
        Calls.due("no such part", Calls.of(() -> x.core(0, 13)), Calls.ARGUMENT);
        Calls.due("no such part", Calls.of(() -> x.core(0, -1)), Calls.ARGUMENT);
    }

    private static String stack(LinkedCores x) {
        return x.core(0, 0) + " " + x.core(0, 1) + " " + x.core(0, 2);
    }

    /** Runs up to the instruction that begins at a byte, and over it. */
    private static String over(LinkedCores x, int at) {
        Calls.till(x, 0, () -> x.core(0, 3) == at);
        x.run(0, x.instruction(0, at, 2));
        return stack(x);
    }

    private static int find(LinkedCores x, int function, int operand, int from) {
        int bytes = x.processor(0, 0);
        for (int at = from; at < bytes; at += Math.max(1, x.instruction(0, at, 2))) {
            if (x.instruction(0, at, 0) == function && x.instruction(0, at, 1) == operand) {
                return at;
            }
        }
        Calls.due("function " + function + " " + operand + " is there", 0, 1);
        return from;
    }

    /** What is taken leaves B in A, C in B, and C stays. */
    private static void operations() {
        LinkedCores x = Calls.good("INT x:\n[3]INT a:\nSEQ\n  x := 5\n  a[2] := x\n  x := 1 < 2\n");
        int w = x.processor(0, 3);
        int check = find(x, 15, 12, 0);
        Calls.due("CHECK", over(x, check), "2 5 5");
        Calls.due("LDLP", over(x, check + 1), (w + 2) + " 2 5");
        Calls.due("WSUB", over(x, check + 2), (w + 4) + " 5 5");
        Calls.due("STNL", over(x, check + 3), "5 5 5");
        int rev = find(x, 15, 0, check);
        Calls.due("REV", over(x, rev), "1 2 5");
        Calls.due("GT", over(x, rev + 1), "1 5 5");
        Calls.due("STL", over(x, rev + 2), "5 5 5");
        LinkedCores y = Calls.good("SEQ\n  SEQ i = 0 FOR 1\n    SKIP\n  screen ! 3");
        int cj = find(y, 10, 9, 0);
        Calls.due("CJ takes what isn't 0", over(y, cj), "0 0 0");
        int out = find(y, 15, 21, 0);
        over(y, cj + 1);
        Calls.due("ADC", over(y, cj + 2), "1 0 0");
        Calls.due("CJ leaves 0", over(y, find(y, 4, 3, cj)), "3 0 0");
        Calls.due("OUT", over(y, out), "0 0 0");
        LinkedCores z = Calls.good("INT x:\nSEQ\n  x := 9\n  ALT\n    x & keys ? x\n      SKIP\n    x & SKIP\n      SKIP\n");
        z.input(4);
        int enbc = find(z, 15, 23, 0);
        Calls.due("ENBC takes the channel", over(z, enbc), "9 0 0");
        int enbs = find(z, 15, 24, enbc);
        Calls.due("ENBS leaves the guard", over(z, enbs), "9 9 0");
        int disc = find(z, 15, 26, enbs);
        int way = z.instruction(0, disc - 3, 1);
        Calls.due("DISC takes all", over(z, disc), way + " " + way + " " + way);
        Calls.due("the way", z.word(0, z.processor(0, 3)), way);
        int diss = find(z, 15, 27, disc);
        Calls.due("DISS takes both", over(z, diss), way + " " + way + " " + way);
        LinkedCores p = Calls.good("PROC p(VAL INT v)\n  SKIP\n:\np(6)");
        int call = find(p, 9, -p.processor(0, 0) + 2, p.processor(0, 2));
        int first = p.processor(0, 3);
        over(p, call);
        Calls.due("CALL", p.core(0, 3) + " " + p.core(0, 4), "0 " + (first - 4));
        Calls.due("the way back", p.word(0, first - 4), p.processor(0, 0) - 2);
        Calls.due("the argument", p.word(0, first - 7 - 2 + 1), 6);
        p.run(0, 2);
        Calls.due("AJW", p.core(0, 4), first - 9);
        p.run(0, 3);
        Calls.due("RET", p.core(0, 3) + " " + p.core(0, 4), (p.processor(0, 0) - 2) + " " + first);
    }

    private static void ready() {
        LinkedCores x = Calls.good("PAR i = 0 FOR 5\n  SKIP");
        int w = x.processor(0, 3);
        Calls.due("none", Calls.of(() -> x.ready(0, 0)), Calls.INDEX);
        Calls.till(x, 0, () -> x.core(0, 10) >= 5);
        for (int k = 0; k < 5; k++) {
            Calls.due("branch " + k, x.ready(0, k), 2 * (w - 4 - 4 * k) + 1);
        }
        Calls.due("no more", Calls.of(() -> x.ready(0, 5)), Calls.INDEX);
        Calls.due("below", Calls.of(() -> x.ready(0, -1)), Calls.INDEX);
        Calls.due("a PAR's words", x.word(0, w + 2) + " " + x.word(0, w + 3), "5 " + (2 * w + 1));
        x.run(0, 2);
        Calls.due("the first one runs", x.core(0, 6) + " " + x.core(0, 10), (2 * (w - 4) + 1) + " 4");
        x.run(0, 4);
        Calls.due("ENDP", x.word(0, w + 2) + " " + x.core(0, 10), "4 3");
        x.run(0, 5000);
        Calls.due("all", x.word(0, w + 2) + " " + x.outcome(), "0 1");
    }

    private static void words() {
        LinkedCores x = Calls.good("INT x:\nx := 77");
        int all = x.processor(0, 1) + 16;
        Calls.due("below", Calls.of(() -> x.word(0, -1)), Calls.INDEX);
        Calls.due("above", Calls.of(() -> x.word(0, all)), Calls.INDEX);
        for (int k = 0; k < all; k++) {
            Calls.due("word " + k, x.word(0, k), k < 14 ? -1 : 0);
        }
        x.rounds(99);
        Calls.due("x", x.word(0, x.processor(0, 3) + 1), 77);
    }

    private static void outputs() {
        LinkedCores x = Calls.good("INT n:\nWHILE n < 1003\n  SEQ\n    n := n + 1\n    screen ! 0 - n");
        Calls.due("none", Calls.of(() -> x.output(0)), Calls.INDEX);
        for (int k = 0; k < 20; k++) {
            x.rounds(5000);
        }
        Calls.due("done", x.outcome(), 1);
        Calls.due("all of them", x.about(2), 1003);
        Calls.due("the first one", x.output(0), -1);
        Calls.due("the last one that is kept", x.output(999), -1000);
        Calls.due("not kept", Calls.of(() -> x.output(1000)), Calls.INDEX);
        Calls.due("below", Calls.of(() -> x.output(-1)), Calls.INDEX);
    }

    private static void about() {
        LinkedCores x = Calls.good("PROC p(INT a, CHAN c)\n  INT b:\n  SEQ i = 0 FOR 1\n    SKIP\n:\nPROC q()\n  SKIP\n:\n"
            + "LINK l FROM 0 TO 1:\nLINK m FROM 1 TO 0:\nLINK n FROM 1 TO 0:\nPLACED PAR\n  PROCESSOR 0\n    [3]INT x, y:\n    SEQ\n"
            + "      keys ? x[0]\n      screen ! x[0]\n      l ! x[0]\n  PROCESSOR 1\n    PAR i = 0 FOR 4\n      CHAN c:\n      SKIP\n");
        Calls.due("links", x.about(0), 3);
        Calls.due("names", x.about(3), 2 + 3 + 2 + 1 + 1 + 2 + 1 + 1);
        Calls.due("PROCs", x.about(4), 2);
        x.input(5);
        x.input(6);
        Calls.due("none taken", x.about(1), 0);
        x.rounds(50);
        Calls.due("taken", x.about(1), 1);
        Calls.due("outputs", x.about(2), 1);
        x.beat(100);
        Calls.due("beats", x.about(5), 150);
        Calls.due("packets", x.about(6), 7);
        Calls.due("below", Calls.of(() -> x.about(-1)), Calls.ARGUMENT);
        Calls.due("above", Calls.of(() -> x.about(7)), Calls.ARGUMENT);
    }
}
