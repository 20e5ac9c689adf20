import java.util.ArrayList;
import java.util.List;

/** Terms 2, USE: which elements meet, told by going through all the numbers; and who may use links and host. */
public final class UseBoundsTest {
    private static final int USE = 5;
    private static final int MAX = 2147483647;

    public static void main(String[] args) {
        constants();
        notConstant();
        oneIndex();
        twoIndexes();
        indexAround();
        manyBranches();
        arguments();
        wholeArrays();
        noUse();
        hosts();
        links();
        leastLine();
        Calls.close();
    }

    private static void judged(String text, int line) {
        if (line < 0) {
            Calls.good(text);
        } else {
            Calls.fault(text, USE, line, -1);
        }
    }

    /** CONSTANT: a NUMBER, TRUE, FALSE, or one of these + or - a NUMBER, TRUE or FALSE; sums wrap. */
    private static void constants() {
        String[] written = {"0", "1", "3", "TRUE", "FALSE", "(3)", "2 + 1", "2 - 1", "TRUE + TRUE", "FALSE - TRUE", "3 - FALSE", "(2) + (1)", "((1 + 2))",
            "2147483647", "2147483647 + 1", "0 - 1", "0 - 2147483647", "2147483647 + 2147483647", "2147483647 + TRUE", "0000000003"};
        int[] element = {0, 1, 3, 1, 0, 3, 3, 1, 2, -1, 3, 3, 3, MAX, MAX + 1, -1, -MAX, MAX + MAX, MAX + 1, 3};
        for (int k = 0; k < written.length; k++) {
            for (int j = 0; j < written.length; j++) {
                String text = "[4]INT a:\nINT x:\nPAR\n  a[" + written[k] + "] := 1\n  x := a[" + written[j] + "]";
                judged(text, element[k] == element[j] ? 2 : -1);
            }
        }
        for (int k = 0; k < written.length; k++) {
            judged("[4]CHAN c:\nPAR\n  c[" + written[k] + "] ! 1\n  c[1] ! 2", element[k] == 1 ? 1 : -1);
            judged("[4]CHAN c:\nINT x, y:\nPAR\n  c[3] ? x\n  c[" + written[k] + "] ? y", element[k] == 3 ? 2 : -1);
        }
    }

    /** All else is all elements: each of them meets any element, and all. */
    private static void notConstant() {
        for (String e : new String[] {"y", "- 1", "NOT 1", "1 * 1", "1 + y", "y + 1", "(1 + 1) + 1", "1 + (1 + 1)", "1 / 1",
            "1 << 1", "b[0]", "1 /\\ 1", "1 = 1", "1 AND 1", "- (1)", "(- 1) + 1", "1 - (- 1)"}) {
            judged("[4]INT a, b:\nINT x, y:\nPAR\n  a[" + e + "] := 1\n  x := a[2]", 2);
            judged("[4]INT a, b:\nINT x, y:\nPAR\n  x := a[" + e + "]\n  a[3] := 2", 2);
            judged("[4]INT a, b:\nINT x, y:\nPAR\n  a[y] := 1\n  x := a[" + e + "]", 2);
            judged("[4]INT a, b:\nINT x, y:\nPAR\n  b[3] := 1\n  x := a[" + e.replace("b[0]", "1") + "]", -1);
        }
        judged("[4]INT a:\nSEQ i = 0 FOR 1\n  PAR\n    a[i] := 1\n    a[1] := 2", 2);
        judged("PROC p(VAL INT v)\n  [4]INT a:\n  PAR\n    a[v] := 1\n    a[1] := 2\n:\nSKIP", 2);
        // the index of a PAR is constant in this order alone, and once
        judged("[8]INT a:\nPAR i = 0 FOR 2\n  a[i + 1] := 1", -1);
        judged("[8]INT a:\nPAR i = 0 FOR 2\n  a[i - 1] := 1", -1);
        judged("[8]INT a:\nPAR i = 0 FOR 2\n  a[i + TRUE] := 1", -1);
        judged("[8]INT a:\nPAR i = 0 FOR 2\n  a[((i)) - (FALSE)] := 1", -1);
        judged("[8]INT a:\nPAR i = 0 FOR 2\n  a[1 + i] := 1", 1);
        judged("[8]INT a:\nPAR i = 0 FOR 2\n  a[1 - i] := 1", 1);
        judged("[8]INT a:\nPAR i = 0 FOR 2\n  a[(i + 1) + 1] := 1", 1);
        judged("[8]INT a:\nPAR i = 0 FOR 2\n  a[i + i] := 1", 1);
        judged("[8]INT a:\nPAR i = 0 FOR 2\n  a[- i] := 1", 1);
        judged("[8]INT a:\nPAR i = 0 FOR 2\n  a[i * 1] := 1", 1);
    }

    private static String plus(String name, int n) {
        return n == 0 ? name : n > 0 ? name + " + " + n : name + " - " + -n;
    }

    /** One branch for each number of the index: it writes one element and reads another. */
    private static void oneIndex() {
        for (int first : new int[] {0, 5, MAX - 7, MAX - 1, MAX}) {
            for (int many : new int[] {1, 2, 3, 8}) {
                for (int p = -2; p <= 2; p++) {
                    for (int q = -8; q <= 8; q += many == 8 ? 1 : 2) {
                        boolean meet = false;
                        for (int k = 0; k < many; k++) {
                            for (int j = 0; j < many; j++) {
                                meet |= k != j && first + k + p == first + j + q;
                            }
                        }
                        judged("[8]INT a:\nPAR i = " + first + " FOR " + many + "\n  a[" + plus("i", p) + "] := a[" + plus("i", q) + "]", meet ? 1 : -1);
                    }
                }
            }
        }
        for (int number : new int[] {MAX, 0, 1, 7, 8}) {
            for (int first : new int[] {0, 1, MAX - 7}) {
                boolean meet = number >= first && number - first < 8;
                judged("[8]INT a:\nPAR i = " + first + " FOR 8\n  a[i] := a[" + number + "]", meet ? 1 : -1);
            }
        }
    }

    private static int at(String e, int i, int j) {
        char first = e.charAt(0);
        int base = first == 'i' ? i : first == 'j' ? j : first - '0';
        return e.length() == 1 ? base : e.charAt(2) == '+' ? base + e.charAt(4) - '0' : base - e.charAt(4) + '0';
    }

    /** Two PARs in one another: the outer one's branches, then the inner one's for each number of the outer index. */
    private static void twoIndexes() {
        String[] elements = {"i", "j", "i + 1", "j + 2", "j - 1", "2", "0"};
        for (String written : elements) {
            for (String read : elements) {
                for (int outer = 1; outer <= 3; outer++) {
                    for (int inner = 1; inner <= 3; inner += 2) {
                        int line = clash(written, read, outer, inner);
                        judged("[8]INT a:\nPAR i = 0 FOR " + outer + "\n  PAR j = 1 FOR " + inner + "\n    a[" + written + "] := a[" + read + "]", line);
                    }
                }
            }
        }
    }

    private static int clash(String written, String read, int outer, int inner) {
        int line = -1;
        for (int i = 0; i < outer; i++) {
            for (int other = 0; other < outer; other++) {
                for (int j = 1; j <= inner; j++) {
                    for (int more = 1; more <= inner; more++) {
                        int w = at(written, i, j);
                        boolean meet = w == at(read, other, more) || w == at(written, other, more);
                        if (meet && i != other) {
                            return 1;
                        }
                        line = meet && j != more ? 2 : line;
                    }
                }
            }
        }
        return line;
    }

    /** Branches of a plain PAR inside: the index around it has one number for both. */
    private static void indexAround() {
        judged("[8]INT a, b:\nPAR i = 0 FOR 1\n  PAR\n    a[i] := 1\n    b[0] := a[i + 1]", -1);
        judged("[8]INT a, b:\nPAR i = 0 FOR 1\n  PAR\n    a[i] := 1\n    b[0] := a[i]", 2);
        judged("[8]INT a, b:\nPAR i = 0 FOR 2\n  PAR\n    a[i] := 1\n    b[i] := a[i + 2]", -1);
        judged("[8]INT a, b:\nPAR i = 0 FOR 2\n  PAR\n    a[i] := 1\n    b[i] := a[i + 1]", 1);
        judged("[8]INT a, b:\nPAR i = 0 FOR 3\n  PAR\n    a[i] := 1\n    b[i] := a[3]", -1);
        judged("[8]INT a, b:\nPAR i = 1 FOR 3\n  PAR\n    a[i] := 1\n    b[i] := a[3]", 1);
        judged("[8]INT a, b:\nPAR i = 3 FOR 1\n  PAR\n    a[i] := 1\n    b[i] := a[3]", 2);
        judged("[8]INT a, b:\nPAR i = 2 FOR 1\n  PAR\n    a[i] := 1\n    b[i] := a[3]", -1);
    }

    /** Any two of the branches, the first and the eighth too. */
    private static void manyBranches() {
        for (int one = 0; one < 8; one++) {
            for (int other = one + 1; other < 8; other++) {
                List<String> lines = new ArrayList<>();
                for (int k = 0; k < 8; k++) {
                    lines.add("  a[" + k + "] := 1");
                }
                lines.set(other, "  a[" + one + "] := 1");
                judged("[8]INT a:\nPAR\n" + String.join("\n", lines), 1);
            }
        }
        judged("INT x:\nPRI PAR\n  x := 1\n  screen ! x", 1);
        judged("INT x:\nPRI PAR\n  SKIP\n  x := 1", -1);
    }

    private static final String PROCS = "PROC rw(INT r, INT s)\n  r := s\n:\nPROC wn(INT r, INT s)\n  r := 1\n:\nPROC rr(INT r, INT s)\n  INT t:\n  t := r + s\n:\n"
        + "PROC nn(INT r, INT s)\n  SKIP\n:\nPROC cc(CHAN f, CHAN g)\n  SKIP\n:\nPROC va(VAL INT v, INT r, [4]INT t)\n  t[0] := 1\n:\nPROC wr(INT r)\n  r := 1\n:\n"
        + "PROC vs(VAL INT v, CHAN c)\n  c ! v\n:\n";
    private static final int AHEAD = 25;

    private static void call(String line, boolean fine) {
        judged(PROCS + "INT x, y:\n[4]INT a:\nCHAN c, d:\n[4]CHAN e:\n" + line, fine ? -1 : AHEAD + 4);
    }

    private static void arguments() {
        for (String pair : new String[] {"x, x", "a[1], a[1]", "a[1], a[0 + 1]", "a[x], a[1]", "a[1], a[x]", "a[x], a[x]", "a[x], a[y]"}) {
            call("rw(" + pair + ")", false);
            call("wn(" + pair + ")", true);
            call("rr(" + pair + ")", true);
            call("nn(" + pair + ")", true);
        }
        for (String pair : new String[] {"x, y", "a[1], a[2]", "a[1], a[1 + 1]", "x, a[0]", "x, a[x]", "a[y], y"}) {
            call("rw(" + pair + ")", true);
        }
        for (String pair : new String[] {"c, c", "e[0], e[0]", "e[0], e[1 - 1]", "e[x], e[0]", "e[0], e[x]", "e[x], e[y]", "screen, screen"}) {
            call("cc(" + pair + ")", false);
        }
        for (String pair : new String[] {"c, d", "e[0], e[1]", "c, e[0]", "screen, keys"}) {
            call("cc(" + pair + ")", true);
        }
        judged(PROCS + "INT x, y:\n[4]INT a:\nCHAN c:\nPAR\n  vs(x, c)\n  x := 1", AHEAD + 3);
        judged(PROCS + "INT x, y:\n[4]INT a:\nCHAN c:\nPAR\n  vs(a[2], c)\n  a[2] := 1", AHEAD + 3);
        judged(PROCS + "INT x, y:\n[4]INT a:\nCHAN c:\nPAR\n  vs(a[2], c)\n  a[1] := 1", -1);
        judged(PROCS + "INT x, y:\n[4]INT a:\nCHAN c:\nPAR\n  vs(a[x], c)\n  x := 1", AHEAD + 3);
        judged(PROCS + "INT x, y:\n[4]INT a:\nCHAN c:\nPAR\n  vs(1 + x, c)\n  vs(x, screen)", -1);
        judged(PROCS + "INT x, y:\n[4]INT a:\nPAR\n  wr(a[x])\n  x := 1", AHEAD + 2);
        judged(PROCS + "INT x, y:\n[4]CHAN e:\nPAR\n  vs(1, e[x])\n  x := 1", AHEAD + 2);
        call("va(x, x, a)", true);
        call("va(a[0], x, a)", true);
        call("va(1, a[0], a)", true);
        call("va(x, y, a)", true);
        judged(PROCS.replace("  t[0] := 1\n", "  t[0] := r\n") + "[4]INT a:\nva(1, a[3], a)", AHEAD + 1);
        judged(PROCS.replace("  t[0] := 1\n", "  r := t[0]\n") + "[4]INT a:\nva(1, a[3], a)", AHEAD + 1);
        judged(PROCS.replace("  t[0] := 1\n", "  r := v\n") + "[4]INT a:\nva(a[3], a[3], a)", -1);
        // an index of a PAR around has one number for both
        judged(PROCS + "[8]INT a:\nPAR i = 0 FOR 2\n  rw(a[i], a[i + 2])", -1);
        judged(PROCS + "[8]INT a:\nPAR i = 0 FOR 2\n  rw(a[i], a[i + 1])", AHEAD + 1);
        judged(PROCS + "[8]INT a:\nPAR i = 0 FOR 1\n  rw(a[i], a[i + 1])", -1);
        judged(PROCS + "[8]INT a:\nPAR i = 0 FOR 1\n  rw(a[i], a[i])", AHEAD + 2);
    }

    /** What a PROC does with an array counts for all its elements. */
    private static void wholeArrays() {
        String procs = "PROC w([4]INT t)\n  t[0] := 1\n:\nPROC r([4]INT t)\n  INT x:\n  x := t[0]\n:\nPROC n([4]INT t)\n  SKIP\n:\n[4]INT a, b:\nINT x:\nPAR\n  ";
        judged(procs + "w(a)\n  x := a[3]", 12);
        judged(procs + "w(a)\n  a[3] := 1", 12);
        judged(procs + "r(a)\n  a[3] := 1", 12);
        judged(procs + "r(a)\n  x := a[0]", -1);
        judged(procs + "n(a)\n  a[0] := 1", -1);
        judged(procs + "w(a)\n  w(b)", -1);
        judged(procs + "w(a)\n  w(a)", 12);
        judged(procs + "r(a)\n  r(a)", -1);
        judged(procs + "w(a)\n  r(a)", 12);
        judged(procs + "w(a)\n  n(a)", -1);
    }

    /** Numbers of indexes, VAL parameters and what is declared in a branch is no use against others. */
    private static void noUse() {
        judged("PAR i = 0 FOR 8\n  INT x:\n  x := i", -1);
        judged("PAR\n  INT x:\n  x := 1\n  INT x:\n  x := 2", -1);
        judged("PAR i = 0 FOR 2\n  CHAN c:\n  PAR\n    c ! 1\n    INT x:\n    c ? x", -1);
        judged("SEQ i = 0 FOR 2\n  PAR\n    INT x:\n    x := i\n    INT y:\n    y := i", -1);
        judged("CHAN c:\nPAR i = 0 FOR 1\n  c ! 1", -1);
        judged("CHAN c:\nPAR i = 0 FOR 2\n  c ! 1", 1);
        judged("PAR i = 0 FOR 1\n  screen ! 1", -1);
        judged("PAR i = 0 FOR 2\n  screen ! 1", 0);
        judged("INT x:\nPAR i = 0 FOR 2\n  keys ? x", 1);
    }

    /** screen is sent on, keys taken from, by processor 0 alone. */
    private static void hosts() {
        for (int p = 0; p < 6; p++) {
            String text = "PROC s(CHAN c)\n  c ! 1\n:\nPROC t(CHAN c)\n  INT x:\n  c ? x\n:\nPROC n(CHAN c)\n  SKIP\n:\nPLACED PAR\n  PROCESSOR " + p + "\n    INT x:\n    ";
            int fine = p == 0 ? -1 : 13;
            judged(text + "screen ! 1", fine);
            judged(text + "screen ? x", 13);
            judged(text + "keys ? x", fine);
            judged(text + "keys ! 1", 13);
            judged(text + "s(screen)", fine);
            judged(text + "t(screen)", 13);
            judged(text + "t(keys)", fine);
            judged(text + "s(keys)", 13);
            judged(text + "ALT\n      keys ? x\n        SKIP", p == 0 ? -1 : 14);
            judged(text + "ALT\n      TRUE & keys ? x\n        SKIP", p == 0 ? -1 : 14);
            judged(text + "ALT\n      screen ? x\n        SKIP", 14);
        }
        judged("screen ! 1", -1);
        judged("INT x:\nkeys ? x", -1);
        judged("INT x:\nscreen ? x", 1);
        judged("keys ! 1", 0);
        judged("PROC p()\n  screen ! 1\n:\nSKIP", 1);
        judged("PROC p()\n  INT x:\n  keys ? x\n:\nSKIP", 2);
        judged("PROC s(CHAN c)\n  c ! 1\n:\nPROC p()\n  s(screen)\n:\nSKIP", 4);
        judged("PROC s(CHAN c)\n  c ! 1\n:\nPROC p(CHAN c)\n  s(c)\n:\np(screen)", -1);
        judged("PROC s(CHAN c)\n  c ! 1\n:\nPROC p(CHAN c)\n  s(c)\n:\np(keys)", 6);
    }

    private static void links() {
        for (int from = 0; from < 6; from++) {
            for (int to = 0; to < 6; to++) {
                for (int p = 0; p < 6 && from != to; p++) {
                    String text = "LINK l FROM " + from + " TO " + to + ":\nPLACED PAR\n  PROCESSOR " + p + "\n    INT x:\n    ";
                    judged(text + "l ! 1", p == from ? -1 : 4);
                    judged(text + "l ? x", p == to ? -1 : 4);
                    judged(text + "ALT\n      l ? x\n        SKIP", p == to ? -1 : 5);
                }
            }
        }
        String procs = "PROC s(CHAN c)\n  c ! 1\n:\nPROC t(CHAN c)\n  INT x:\n  c ? x\n:\nPROC b(CHAN c)\n  SEQ\n    s(c)\n    t(c)\n:\n";
        String one = procs + "LINK k FROM 2 TO 3:\nLINK l FROM 1 TO 0:\nPLACED PAR\n  PROCESSOR ";
        judged(one + "1\n    s(l)", -1);
        judged(one + "1\n    t(l)", 16);
        judged(one + "1\n    b(l)", 16);
        judged(one + "0\n    t(l)", -1);
        judged(one + "0\n    s(l)", 16);
        judged(one + "0\n    b(l)", 16);
        judged(one + "2\n    s(k)", -1);
        judged(one + "3\n    t(k)", -1);
        judged(one + "1\n    PAR\n      l ! 1\n      l ! 2", 16);
        judged(one + "1\n    PAR\n      l ! 1\n      SKIP", -1);
    }

    private static void leastLine() {
        judged("INT x:\nSEQ\n  PAR\n    x := 1\n    x := 2\n  PAR\n    x := 1\n    x := 2", 2);
        judged("INT x:\nSEQ\n  PAR\n    x := 1\n    SKIP\n  PAR\n    x := 1\n    x := 2", 5);
        judged("PLACED PAR\n  PROCESSOR 1\n    keys ! 1\n  PROCESSOR 0\n    keys ! 1", 2);
        judged("PLACED PAR\n  PROCESSOR 5\n    SKIP\n  PROCESSOR 0\n    keys ! 1", 4);
        judged("PROC p(INT r, INT s)\n  r := s\n:\nPROC q()\n  INT x:\n  p(x, x)\n:\nkeys ! 1", 5);
        judged("PROC p(INT r, INT s)\n  r := s\n:\nINT x:\nPAR\n  p(x, x)\n  screen ? x", 4);
        judged("PROC p(INT r, INT s)\n  r := s\n:\nINT x, y:\nPAR\n  p(x, x)\n  screen ? y", 5);
        judged("PROC p(INT r, INT s)\n  r := s\n:\nINT x, y:\nPAR\n  p(x, y)\n  SKIP", -1);
    }
}
