import java.util.Random;

/**
 * Any calls in any state: each answers or throws of itself, and a call that throws changes nothing: an object that was
 * not asked it goes on the same way. The texts are right ones that were damaged, so that all of the reader is passed.
 */
public final class AnyCallsTest {
    private static final String[] TEXTS = {
        "PROC buf(CHAN a, CHAN b)\n  INT x:\n  SEQ i = 0 FOR 3\n    SEQ\n      a ? x\n      b ! x + i\n:\nCHAN c, d:\nPAR\n  SEQ i = 1 FOR 3\n"
            + "    c ! i * i\n  buf(c, d)\n  INT y:\n  SEQ i = 0 FOR 3\n    SEQ\n      d ? y\n      screen ! y\n",
        "PROC p(VAL INT a, [3]INT t, CHAN c)\n  c ! (a * 10) + t[a]\n:\nLINK l FROM 1 TO 0 :\nLINK m FROM 0 TO 1:\nPLACED PAR\n  PROCESSOR 0\n"
            + "    CHAN c :\n    [3]INT t:\n    PRI PAR\n      INT x :\n      SEQ i = 0 FOR 6\n        SEQ\n          l ? x\n          screen ! x\n"
            + "      PAR\n        SEQ i = 0 FOR 6\n          p(i \\ 3, t, c)\n        INT y :\n        SEQ i = 0 FOR 6\n          c ? y\n"
            + "  PROCESSOR 1\n    SEQ i = 0 FOR 6\n      l ! i\n",
        "CHAN a, b:\nINT x, y:\n[2]INT z:\nSEQ\n  PAR\n    SEQ\n      a ! 5\n      keys ? z[1]\n    SEQ\n      ALT\n        a ? x\n          SKIP\n"
            + "        (y = 0) AND (NOT y) & b ? x\n          SKIP\n        y > 3 & SKIP\n          STOP\n      y := - 1\n  screen ! y / z[0]\n",
        "[8]INT a:\nPAR i = 0 FOR 8\n  WHILE a[i] < 100\n    IF\n      a[i] >= 50\n        a[i] := a[i] + 7\n      TRUE\n        a[i] := (a[i] \\/ i) + 1\n",
    };
    private static final String[] PIECES = {"SEQ", "PAR", "PRI", "ALT", "IF", "WHILE", "SKIP", "STOP", "INT", "CHAN", "VAL", "PROC", "FOR",
        "TRUE", "NOT", "AND", "PLACED", "PROCESSOR", "LINK", "FROM", "TO", ":=", "<>", "<=", "<<", "/\\", "!", "?", ",", ":", "(", ")", "[",
        "]", "=", "+", "-", "*", "/", "\\", "&", "x", "y", "a", "c", "p", "screen", "keys", "0", "1", "9", "64", "65", "99999999999",
        "2147483648", "abcdefghijk", "FOO", "--", ";", ".", "  ", "\n", "\n  ", "[[[[[[[[[", "(((((((((", "i"};

    private static int threw = 0;

    public static void main(String[] args) {
        Random random = new Random(20261115);
        for (int k = 0; k < 12000; k++) {
            LinkedCores x = new LinkedCores();
            LinkedCores twin = new LinkedCores();
            String text = damaged(random, TEXTS[k % TEXTS.length], k / TEXTS.length % 4);
            Calls.write(x, text);
            Calls.write(twin, text);
            int processors = x.compile();
            Calls.due("processors and fault", (processors == LinkedCores.NONE) == (x.fault(0) != 0) ? 1 : 0, 1);
            Calls.due("its twin", twin.compile(), processors);
            for (int j = 0; j < 20; j++) {
                any(x, twin, random);
            }
            Calls.due("nothing was changed by what threw, in\n" + text, Calls.seen(x), Calls.seen(twin));
        }
        Calls.due("some threw", threw > 1000 ? 1 : 0, 1);
        Calls.close();
    }

    private static String damaged(Random random, String text, int times) {
        StringBuilder all = new StringBuilder(text);
        for (int k = 0; k < times && all.length() > 0; k++) {
            int at = random.nextInt(all.length());
            switch (random.nextInt(4)) {
                case 0: all.insert(at, PIECES[random.nextInt(PIECES.length)]); break;
                case 1: all.delete(at, Math.min(all.length(), at + 1 + random.nextInt(4))); break;
                case 2: all.replace(at, at + 1, PIECES[random.nextInt(PIECES.length)]); break;
                default: all.setLength(random.nextInt(8) == 0 ? at : all.length());
            }
        }
        return all.substring(0, Math.min(all.length(), 3000));
    }

    private static int number(Random random) {
        int[] edges = {-1, 0, 1, 2, 3, 5, 6, 12, 13, 19, 200, 1000, 1001, 5000, 5001, Integer.MAX_VALUE, Integer.MIN_VALUE};
        return random.nextInt(3) == 0 ? edges[random.nextInt(edges.length)] : random.nextInt(8);
    }

    /** The twin is asked only what didn't throw. */
    private static void any(LinkedCores x, LinkedCores twin, Random random) {
        int call = random.nextInt(19);
        int a = number(random);
        int b = number(random);
        int c = number(random);
        int answer = Calls.of(() -> ask(x, call, a, b, c));
        if (answer <= Calls.STATE && answer >= Calls.MACHINE) {
            threw++;
            Calls.due("thrown by the class itself", answer == Calls.MACHINE ? 1 : 0, 0);
        } else {
            Calls.due("call " + call, Calls.of(() -> ask(twin, call, a, b, c)), answer);
        }
    }

    private static int ask(LinkedCores x, int call, int a, int b, int c) {
        switch (call) {
            case 0: return x.put(a);
            case 1: x.end(a); return 0;
            case 2: return x.fault(a);
            case 3: return x.processor(a, b);
            case 4: return x.code(a, b);
            case 5: return x.instruction(a, b, c);
            case 6: return x.link(a, b);
            case 7: if (a == 0) { x.begin(); } return 0;
            case 8: return x.input(a);
            case 9: return x.run(a, b);
            case 10: return x.beat(a);
            case 11: return x.rounds(a);
            case 12: return x.outcome();
            case 13: return x.core(a, b);
            case 14: return x.ready(a, b);
            case 15: return x.word(a, b);
            case 16: return x.output(a);
            case 17: return x.about(a);
            default: return a == 1 ? x.compile() : 0;
        }
    }
}
