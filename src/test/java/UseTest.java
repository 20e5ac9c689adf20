/** Promises 4 and 5: fault 5, who may use what. */
public final class UseTest {
    private static final int USE = 5;

    public static void main(String[] args) {
        variables();
        elements();
        replicated();
        channels();
        procs();
        arguments();
        linksAndHost();
        order();
        Calls.close();
    }

    private static void bad(String text, int line) {
        Calls.fault(text, USE, line, -1);
    }

    private static void fine(String text) {
        Calls.good(text);
    }

    private static String pair(String one, String other) {
        return "INT x, y:\n[4]INT a:\nCHAN c, d:\n[4]CHAN e:\nPAR\n  " + one + "\n  " + other + "\n";
    }

    private static void clash(String one, String other) {
        bad(pair(one, other), 4);
        bad(pair(other, one), 4);
    }

    private static void agree(String one, String other) {
        fine(pair(one, other));
        fine(pair(other, one));
    }

    private static void variables() {
        clash("x := 1", "x := 2");
        clash("x := 1", "y := x");
        clash("x := 1", "screen ! x");
        clash("x := 1", "c ? x");
        clash("x := 1", "a[x] := 2");
        clash("x := 1", "e[x] ! 2");
        clash("x := 1", "IF\n    x = 1\n      SKIP");
        clash("x := 1", "WHILE y > x\n    SKIP");
        clash("x := 1", "SEQ i = x FOR 2\n    SKIP");
        clash("x := 1", "SEQ i = 0 FOR x\n    SKIP");
        clash("x := 1", "ALT\n    x & SKIP\n      SKIP");
        clash("x := 1", "ALT\n    c ? x\n      SKIP");
        clash("x := 1", "ALT\n    e[x] ? y\n      SKIP");
        clash("x := 1", "ALT\n    TRUE & SKIP\n      y := x");
        clash("x := 1", "SEQ\n    SKIP\n    INT z:\n    z := x");
        clash("x := 1", "PAR\n    SKIP\n    y := x");
        agree("x := 1", "y := 2");
        agree("screen ! x", "c ! x");
        agree("x := 1", "INT x:\n  x := 2");
        agree("x := 1", "SEQ x = 0 FOR 2\n    y := x");
        fine("INT x:\nSEQ\n  x := 1\n  PAR\n    screen ! x\n    INT y:\n    y := x\n  x := 2");
    }

    private static void elements() {
        clash("a[1] := 1", "a[1] := 2");
        clash("a[1] := 1", "x := a[1]");
        clash("a[1] := 1", "x := a[y]");
        clash("a[x] := 1", "y := a[2]");
        clash("a[1] := 1", "x := a[2 - 1]");
        clash("a[1] := 1", "x := a[(0) + (TRUE)]");
        clash("a[1] := 1", "x := a[TRUE]");
        clash("a[1] := 1", "x := a[1 * 2]");
        clash("a[1] := 1", "x := a[(1 + 1) + 1]");
        clash("a[1] := 1", "x := a[- 3]");
        clash("a[1] := 1", "x := a[1 + (1 + 1)]");
        agree("a[1] := 1", "x := a[2]");
        agree("a[1] := 1", "x := a[FALSE]");
        agree("a[1] := 1", "x := a[1 + 1]");
        agree("a[1] := 1", "x := a[((3)) - 3]");
        agree("a[x] := 1", "y := 2");
        agree("x := a[0]", "y := a[0]");
        // sums wrap
        clash("a[2147483647 + 2] := 1", "x := a[(2147483647 + 2)]");
        clash("e[1] ! 1", "e[1] ! 2");
        clash("e[1] ! 1", "e[x] ! 2");
        agree("e[1] ! 1", "e[2] ! 2");
        agree("e[1] ! 1", "e[1] ? x");
    }

    private static String each(String index, String line) {
        return "INT x, y:\n[8]INT a:\n[8]CHAN e:\nPAR i = " + index + "\n  " + line;
    }

    private static void replicated() {
        bad(each("0 FOR 2", "x := 1"), 3);
        fine(each("0 FOR 1", "x := 1"));
        fine(each("0 FOR 8", "INT x:\n  x := 1"));
        fine(each("0 FOR 8", "a[i] := x"));
        bad(each("0 FOR 8", "a[i] := a[i + 1]"), 3);
        bad(each("0 FOR 8", "a[i] := a[i - 1]"), 3);
        fine(each("0 FOR 2", "a[i] := a[i + 2]"));
        bad(each("0 FOR 3", "a[i] := a[i + 2]"), 3);
        bad(each("0 FOR 3", "a[i] := a[2]"), 3);
        fine(each("0 FOR 2", "a[i] := a[2]"));
        fine(each("3 FOR 2", "a[i] := a[2]"));
        bad(each("0 FOR 2", "a[i + i] := 1"), 3);
        bad(each("0 FOR 2", "a[1 + i] := 1"), 3);
        bad(each("0 FOR 2", "e[0] ! i"), 3);
        bad(each("0 FOR 2", "PAR\n    e[i] ! 1\n    e[i + 1] ! 1"), 3);
        fine(each("0 FOR 2", "PAR\n    e[i] ! 1\n    e[i + 1] ? a[i]"));
        bad(each("0 FOR 2", "PAR\n    e[i] ! 1\n    e[i] ! 1"), 4);
        // for i = 1 the branches of the inner one meet
        bad(each("0 FOR 2", "PAR\n    a[i] := 1\n    INT z:\n    z := a[1]"), 3);
        bad("[8]INT a:\nPAR i = 0 FOR 2\n  PAR\n    a[i] := 1\n    SEQ j = 0 FOR 1\n      screen ! a[i]\n", 1);
        bad("[8]INT a:\n[8]INT b:\nPAR i = 0 FOR 1\n  PAR\n    a[i] := 1\n    b[0] := a[0]", 3);
        fine("[8]INT a:\n[8]INT b:\nPAR i = 0 FOR 1\n  PAR\n    a[i] := 1\n    b[0] := a[1]");
        // inner indexes take all their numbers in each branch
        bad("[8]INT a:\nPAR i = 0 FOR 2\n  PAR j = 0 FOR 2\n    a[j] := 1", 1);
        bad("[8]INT a:\nPAR i = 0 FOR 2\n  PAR j = 0 FOR 2\n    a[i] := 1", 2);
        fine("PAR i = 0 FOR 2\n  [8]INT a:\n  PAR j = 0 FOR 2\n    a[j] := i");
        bad("[8]INT a:\nPAR i = 0 FOR 1\n  PAR j = 4 FOR 2\n    PAR\n      a[j] := 1\n      a[i + 5] := 2", 2);
        // 2147483647 + 1 wraps to the least number
        fine(each("2147483647 FOR 2", "a[i] := 1"));
        bad(each("2147483647 FOR 2", "a[i] := a[2147483647 + 1]"), 3);
    }

    private static void channels() {
        clash("c ! 1", "c ! 2");
        clash("c ? x", "c ? y");
        clash("c ? x", "ALT\n    c ? y\n      SKIP");
        clash("screen ! 1", "screen ! 2");
        clash("keys ? x", "keys ? y");
        agree("c ! 1", "c ? x");
        agree("SEQ\n    c ! 1\n    d ? x", "SEQ\n    c ? y\n    d ! 1");
        fine("INT x:\nCHAN c:\nSEQ\n  c ! 1\n  c ? x");
        bad("CHAN c:\nPRI PAR\n  c ! 1\n  c ! 2", 1);
    }

    private static final String PROCS = "PROC rd(INT r)\n  INT t:\n  t := r\n:\n"
        + "PROC wr(INT r)\n  r := 1\n:\nPROC no(INT r, CHAN c)\n  SKIP\n:\nPROC sd(CHAN c)\n  c ! 1\n:\nPROC tk(CHAN c, INT r)\n  c ? r\n:\n"
        + "PROC ra([4]INT a)\n  INT t:\n  t := a[0]\n:\nPROC wa([4]INT a)\n  a[0] := 1\n:\nPROC ind(INT r)\n  wr(r)\n:\n";
    private static final int LINES = 26;

    private static void both(String one, String other, boolean fine) {
        if (fine) {
            fine(PROCS + pair(one, other));
        } else {
            bad(PROCS + pair(one, other), LINES + 4);
        }
    }

    private static void procs() {
        both("wr(x)", "wr(x)", false);
        both("wr(x)", "rd(x)", false);
        both("ind(x)", "rd(x)", false);
        both("rd(x)", "rd(x)", true);
        both("no(x, c)", "wr(x)", true);
        both("no(x, c)", "sd(c)", true);
        both("sd(c)", "sd(c)", false);
        both("sd(c)", "tk(c, x)", true);
        both("tk(c, x)", "tk(d, x)", false);
        both("wr(a[0])", "wr(a[1])", true);
        both("wr(a[0])", "wr(a[0])", false);
        both("wr(a[x])", "wr(a[1])", false);
        both("wa(a)", "x := a[3]", false);
        both("ra(a)", "a[3] := 1", false);
        both("ra(a)", "x := a[3]", true);
        both("sd(e[0])", "sd(e[1])", true);
        both("sd(e[x])", "sd(e[1])", false);
        both("rd(a[x])", "x := 1", false);
        bad("PROC p(INT r, INT s)\n  PAR\n    r := 1\n    s := r\n:\nSKIP", 1);
        fine("PROC p(INT r, INT s)\n  PAR\n    r := 1\n    s := 2\n:\nSKIP");
        fine("PROC p([4]INT t)\n  PAR i = 0 FOR 4\n    t[i] := i\n:\nSKIP");
    }

    private static void call(String head, String body, String arguments, boolean fine) {
        String text = "PROC p(" + head + ")\n  " + body + "\n:\nINT x, y:\n[4]INT a:\nCHAN c, d:\n[4]CHAN e:\nSEQ\n  SKIP\n  p("
            + arguments + ")";
        if (fine) {
            fine(text);
        } else {
            bad(text, 9 + (int) body.chars().filter(c -> c == '\n').count());
        }
    }

    private static void arguments() {
        call("INT r, INT s", "r := s", "x, x", false);
        call("INT r, INT s", "s := r", "x, x", false);
        call("INT r, INT s", "r := 1", "x, x", true);
        call("INT r, INT s", "SEQ\n    r := 1\n    s := 1", "x, x", false);
        call("INT r, INT s", "INT t:\n  t := r + s", "x, x", true);
        call("INT r, INT s", "r := s", "x, y", true);
        call("INT r, INT s", "r := s", "a[0], a[1]", true);
        call("INT r, INT s", "r := s", "a[0], a[x]", false);
        call("INT r, INT s", "r := s", "a[1], a[2 - 1]", false);
        call("INT r, [4]INT t", "r := t[0]", "a[3], a", false);
        call("[4]INT t, [4]INT u", "t[0] := u[1]", "a, a", false);
        call("VAL INT v, INT r", "r := v", "x, x", true);
        call("INT r, VAL INT v", "r := v", "x, x", true);
        call("CHAN f, CHAN g", "SKIP", "c, c", false);
        call("CHAN f, CHAN g", "SKIP", "c, d", true);
        call("CHAN f, CHAN g", "SKIP", "e[0], e[0]", false);
        call("CHAN f, CHAN g", "SKIP", "e[0], e[1]", true);
        call("CHAN f, CHAN g", "SKIP", "e[0], e[x]", false);
        bad("PROC p(INT r, INT s)\n  r := s\n:\n[4]INT a:\nPAR i = 0 FOR 1\n  p(a[i], a[0])", 5);
        bad("PROC p(INT r, INT s)\n  r := s\n:\n[4]INT a:\nPAR i = 0 FOR 3\n  p(a[i], a[i])", 5);
        fine("PROC p(INT r, INT s)\n  r := s\n:\n[8]INT a:\nPAR i = 0 FOR 3\n  p(a[i], a[i + 4])");
    }

    private static String on(int p, String line) {
        return "PROC sd(CHAN c)\n  c ! 1\n:\nPROC tk(CHAN c)\n  INT x:\n  c ? x\n:\nPROC no(CHAN c)\n  SKIP\n:\n"
            + "LINK l FROM 1 TO 2:\nPLACED PAR\n  PROCESSOR " + p + "\n    INT x:\n    " + line;
    }

    private static void linksAndHost() {
        int line = 14;
        fine(on(1, "l ! 1"));
        bad(on(2, "l ! 1"), line);
        bad(on(0, "l ! 1"), line);
        fine(on(2, "l ? x"));
        bad(on(1, "l ? x"), line);
        fine(on(2, "ALT\n      l ? x\n        SKIP"));
        bad(on(1, "ALT\n      l ? x\n        SKIP"), line + 1);
        fine(on(1, "sd(l)"));
        bad(on(2, "sd(l)"), line);
        fine(on(2, "tk(l)"));
        bad(on(1, "tk(l)"), line);
        fine(on(0, "no(l)"));
        fine(on(0, "screen ! 1"));
        bad(on(1, "screen ! 1"), line);
        bad(on(0, "screen ? x"), line);
        bad(on(0, "tk(screen)"), line);
        fine(on(0, "sd(screen)"));
        fine(on(0, "keys ? x"));
        bad(on(2, "keys ? x"), line);
        bad(on(0, "keys ! 1"), line);
        bad(on(0, "sd(keys)"), line);
        fine(on(0, "tk(keys)"));
        fine(on(3, "CHAN screen, l:\n    PAR\n      l ! 1\n      screen ? x"));
        bad("PROC p()\n  screen ! 1\n:\nSKIP", 1);
        bad("PROC p(INT x)\n  keys ? x\n:\nSKIP", 1);
        bad("PROC q(CHAN c)\n  c ! 1\n:\nPROC p()\n  q(screen)\n:\nSKIP", 4);
        fine("PROC p(CHAN screen)\n  screen ! 1\n:\np(screen)");
    }

    /** The least line is told, whatever is against the rules there. */
    private static void order() {
        bad("INT x:\nSEQ\n  PAR\n    x := 1\n    x := 2\n  keys ! 1\n", 2);
        bad("INT x:\nSEQ\n  keys ! 1\n  PAR\n    x := 1\n    x := 2\n", 2);
        bad("INT x:\nPAR\n  keys ! 1\n  PAR\n    x := 1\n    x := 2\n", 2);
        bad("INT x:\nPAR\n  PAR\n    x := 1\n    x := 2\n  x := 3\n", 1);
        bad("PROC p()\n  INT x:\n  PAR\n    x := 1\n    x := 2\n:\nkeys ! 1", 2);
        bad("PLACED PAR\n  PROCESSOR 4\n    screen ! 1\n  PROCESSOR 0\n    keys ! 1", 2);
    }
}
