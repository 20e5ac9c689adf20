import java.util.NoSuchElementException;
import java.util.Random;

/**
 * Any calls in any state: each answers or throws what its promise names, in the order that it names, and a call that
 * throws changes nothing. The texts are right ones that were damaged, so that all of the reader is passed.
 */
public final class AnyCallsTest {
    private static final String[] TEXTS = {
        "PROC buf(CHAN a, CHAN b)\n  INT x:\n  SEQ i = 0 FOR 3\n    SEQ\n      a ? x\n      b ! x + i\n:\nCHAN c, d:\nPAR\n  SEQ i = 1 FOR 3\n"
            + "    c ! i * i\n  buf(c, d)\n  INT y:\n  SEQ i = 0 FOR 3\n    SEQ\n      d ? y\n      screen ! y\n",
        "PROC p(VAL INT a, [3]INT t, CHAN c)\n  c ! (a * 10) + t[a]\n:\nLINK l FROM 1 TO 0 :\nLINK m FROM 0 TO 1:\nPLACED PAR\n  PROCESSOR 0\n"
            + "    CHAN c :\n    [3]INT t:\n    PRI PAR\n      INT x :\n      SEQ i = 0 FOR 6\n        SEQ\n          l ? x\n          screen ! x\n"
            + "      PAR\n        SEQ i = 0 FOR 6\n          p(i \\ 3, t, c)\n        INT y :\n        SEQ i = 0 FOR 6\n          c ? y\n"
            + "  PROCESSOR 1\n    SEQ i = 0 FOR 6\n      l ! i\n",
        "CHAN a, b:\nINT x, y:\n[2]INT z:\nSEQ\n  PAR\n    SEQ\n      a ! 5\n      keys ? z[1]\n    SEQ\n      ALT\n        a ? x\n          SKIP\n"
            + "        (y = 0) AND (NOT y) & b ? x\n          SKIP\n        y > 3 & SKIP\n          STOP\n      y := - 1\n  screen ! y / z[0]\n",
        "[8]INT a:\nPAR i = 0 FOR 8\n  WHILE a[i] < 100\n    IF\n      a[i] >= 50\n        a[i] := a[i] + 7\n      TRUE\n        a[i] := (a[i] \\/ i) + 1\n",
    };
    private static final String[] PIECES = {"SEQ", "PAR", "PRI", "ALT", "IF", "WHILE", "SKIP", "STOP", "INT", "CHAN", "VAL", "PROC", "FOR",
        "TRUE", "NOT", "AND", "PLACED", "PROCESSOR", "LINK", "FROM", "TO", ":=", "<>", "<=", "<<", "/\\", "!", "?", ",", ":", "(", ")", "[",
        "]", "=", "+", "-", "*", "/", "\\", "&", "x", "y", "a", "c", "p", "screen", "keys", "0", "1", "9", "64", "65", "99999999999",
        "2147483648", "abcdefghijk", "FOO", "--", ";", ".", "  ", "\n", "\n  ", "[[[[[[[[[", "(((((((((", "i"};

    public static void main(String[] args) {
        Random random = new Random(20261115);
        int threw = 0;
        for (int k = 0; k < 4000; k++) {
            LinkedCores x = new LinkedCores();
            Calls.write(x, damaged(random, TEXTS[k % TEXTS.length], k / TEXTS.length % 4));
            int processors = x.compile();
            Calls.due("processors and fault", (processors == LinkedCores.NONE) == (x.fault(0) != 0) ? 1 : 0, 1);
            for (int j = 0; j < 40; j++) {
                threw += any(x, random) ? 1 : 0;
            }
        }
        Calls.due("some threw", threw > 1000 ? 1 : 0, 1);
        Calls.close();
    }

    private static String damaged(Random random, String text, int times) {
        StringBuilder all = new StringBuilder(text);
        for (int k = 0; k < times && all.length() > 0; k++) {
            int at = random.nextInt(all.length());
            switch (random.nextInt(4)) {
                case 0: all.insert(at, PIECES[random.nextInt(PIECES.length)]); break;
                case 1: all.delete(at, Math.min(all.length(), at + 1 + random.nextInt(4))); break;
                case 2: all.replace(at, at + 1, PIECES[random.nextInt(PIECES.length)]); break;
                default: all.setLength(random.nextInt(8) == 0 ? at : all.length());
            }
        }
        return all.substring(0, Math.min(all.length(), 3000));
    }

    private static int number(Random random) {
        int[] edges = {-1, 0, 1, 2, 3, 5, 6, 12, 13, 19, 200, 1000, 1001, 5000, 5001, Integer.MAX_VALUE, Integer.MIN_VALUE};
        return random.nextInt(3) == 0 ? edges[random.nextInt(edges.length)] : random.nextInt(8);
    }

    /** What is seen without changing anything. */
    private static String seen(LinkedCores x) {
        StringBuilder all = new StringBuilder();
        all.append(x.put(0)).append(x.fault(0)).append(x.fault(1)).append(x.fault(2));
        try {
            all.append(x.outcome());
        } catch (IllegalStateException e) {
            return all.toString();
        }
        for (int p = 0; p < 6; p++) {
            try {
                for (int what = 0; what < 13; what++) {
                    all.append(x.core(p, what)).append(' ');
                }
                for (int k = 0; k < x.processor(p, 1) + 16; k++) {
                    all.append(x.word(p, k)).append(' ');
                }
            } catch (NoSuchElementException e) {
                all.append('-');
            }
        }
        for (int what = 0; what < 7; what++) {
            all.append(x.about(what)).append(' ');
        }
        return all.toString();
    }

    private static boolean any(LinkedCores x, Random random) {
        int call = random.nextInt(19);
        int a = number(random);
        int b = number(random);
        int c = number(random);
        String before = seen(x);
        try {
            ask(x, call, a, b, c);
            return false;
        } catch (IllegalStateException | NoSuchElementException | IllegalArgumentException | UnsupportedOperationException e) {
            Calls.due("nothing changed by call " + call, seen(x), before);
        } catch (IndexOutOfBoundsException e) {
            Calls.due("thrown by the class itself", e.getClass() == IndexOutOfBoundsException.class ? 1 : 0, 1);
            Calls.due("nothing changed by call " + call, seen(x), before);
        }
        return true;
    }

    private static void ask(LinkedCores x, int call, int a, int b, int c) {
        switch (call) {
            case 0: x.put(a); break;
            case 1: x.end(a); break;
            case 2: x.fault(a); break;
            case 3: x.processor(a, b); break;
            case 4: x.code(a, b); break;
            case 5: x.instruction(a, b, c); break;
            case 6: x.link(a, b); break;
            case 7: if (a == 0) { x.begin(); } break;
            case 8: x.input(a); break;
            case 9: x.run(a, b); break;
            case 10: x.beat(a); break;
            case 11: x.rounds(a); break;
            case 12: x.outcome(); break;
            case 13: x.core(a, b); break;
            case 14: x.ready(a, b); break;
            case 15: x.word(a, b); break;
            case 16: x.output(a); break;
            case 17: x.about(a); break;
            default: if (a == 1) { x.compile(); }
        }
    }
}
