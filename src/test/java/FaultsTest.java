/** Promises 4 and 5: every kind of fault, its line and its place. */
public final class FaultsTest {
    private static final int FORM = 1;
    private static final int TWICE = 2;
    private static final int UNKNOWN = 3;
    private static final int KIND = 4;
    private static final int TOO_MUCH = 6;

    /** Names of each kind, in seven lines. */
    private static final String ALL = "PROC p(VAL INT v, INT r, [3]INT t, CHAN c)\n  SKIP\n:\nPROC q()\n  SKIP\n:\n"
        + "INT x, y:\n[3]INT a, b:\n[4]INT z:\nCHAN c, d:\n[2]CHAN e:\n";
    private static final int NEXT = 11;

    public static void main(String[] args) {
        lines();
        tokens();
        programs();
        processes();
        levels();
        names();
        kinds();
        beginnings();
        guards();
        arguments();
        tooMuch();
        words();
        codeBytes();
        Calls.close();
    }

    private static void fine(String text) {
        Calls.good(text);
    }

    /** A line behind ALL. */
    private static void one(String line, int kind, int place) {
        if (kind == 0) {
            fine(ALL + line);
        } else {
            Calls.fault(ALL + line, kind, NEXT, place);
        }
    }

    private static void lines() {
        Calls.fault("", FORM, -1, -1);
        Calls.fault("\n   \n -- SKIP\n", FORM, -1, -1);
        fine("\n -- odd blanks don't matter here\n     \nSKIP -- done\n   \n--");
        Calls.fault("\n--\n  -- x\nSKIP SKIP", FORM, 3, 5);
        Calls.fault("SKIP\nSKIP", FORM, 1, 0);
        Calls.fault("INT x", FORM, 0, 5);
        Calls.fault("INT x  -- :", FORM, 0, 7);
        Calls.fault("INT x--:", FORM, 0, 5);
        Calls.fault("INT x -", FORM, 0, 6);
        fine("INT x:--\nx:=1--2");
        Calls.fault(" SKIP", FORM, 0, 1);
        Calls.fault("  SKIP", FORM, 0, 2);
    }

    private static void tokens() {
        fine("INT abcdefghij, a.1.b:\nabcdefghij:=a.1.b");
        Calls.fault("INT abcdefghijk:\nSKIP", FORM, 0, 4);
        Calls.fault("abcdefghijk := 1", FORM, 0, 0);
        one("x := 2147483647", 0, 0);
        one("x := 2147483648", FORM, 5);
        one("x := 0000000007", 0, 0);
        one("x := 00000000007", FORM, 5);
        one("x := 1 + 99999999999", FORM, 9);
        Calls.fault("SKIPS", FORM, 0, 0);
        Calls.fault("SEQPAR", FORM, 0, 0);
        Calls.fault("SEQ\n  TRUTH", FORM, 1, 2);
        one("x := TRUTH", FORM, 5);
        one("x := 1 ; 2", FORM, 7);
        one("x := .5", FORM, 5);
        one("x := X", FORM, 5);
        one("x := \"", FORM, 5);
        fine("INTx,y:\nSEQi=0FORx\n  x:=i");
        one("x := y/\\1", 0, 0);
        one("x := y\\/1", 0, 0);
        one("x := y<<>1", FORM, 8);
        one("x := y<=>1", FORM, 8);
        one("x : = 1", FORM, 2);
        one("x ::= 1", FORM, 2);
    }

    private static void programs() {
        Calls.fault("PROC p()\n  SKIP\n:\n", FORM, -1, -1);
        Calls.fault("PROC p()\n  SKIP\n", FORM, -1, -1);
        Calls.fault("PROC p()\n  SKIP\nSKIP", FORM, 2, 0);
        Calls.fault("PROC p()\n  SKIP\n  :\nSKIP", FORM, 2, 2);
        Calls.fault("PROC p()\n  SKIP\n: :\nSKIP", FORM, 2, 2);
        Calls.fault("PROC p()\nSKIP\n:\nSKIP", FORM, 1, 0);
        Calls.fault("PROC p\n", FORM, 0, 6);
        Calls.fault("PROC 1()\n", FORM, 0, 5);
        Calls.fault("PROC p(,)\n", FORM, 0, 7);
        Calls.fault("PROC p(INT x,)\n", FORM, 0, 13);
        Calls.fault("PROC p(VAL x)\n", FORM, 0, 11);
        Calls.fault("PROC p([3]CHAN x)\n", FORM, 0, 10);
        Calls.fault("PROC p([0]INT x)\n", FORM, 0, 8);
        Calls.fault("PROC p([65]INT x)\n", FORM, 0, 8);
        Calls.fault("PROC p(INT a, INT b, INT c, INT d, INT e, INT f, INT g)\n", FORM, 0, 47);
        fine("PROC p([1]INT a, [64]INT b, VAL INT c, CHAN d, INT e, INT f)\n  SKIP\n:\nSKIP");
        Calls.fault("INT x:\nPROC p()\n  SKIP\n:\nSKIP", FORM, 1, 0);
        Calls.fault("LINK l FROM 0 TO 1\n", FORM, 0, 18);
        Calls.fault("LINK l FROM 0 TO 6:\n", FORM, 0, 17);
        Calls.fault("LINK l FROM 6 TO 0:\n", FORM, 0, 12);
        Calls.fault("LINK l FROM 1 TO 1:\n", FORM, 0, 17);
        Calls.fault("LINK l FROM 1 TO x:\n", FORM, 0, 17);
        Calls.fault("LINK l FROM 0 TO 1:\nSKIP", FORM, 1, 0);
        Calls.fault("LINK l FROM 0 TO 1:\n", FORM, -1, -1);
        Calls.fault("LINK l FROM 0 TO 1:\nPROC p()\n  SKIP\n:\n", FORM, 1, 0);
        Calls.fault("PLACED\n", FORM, 0, 6);
        Calls.fault("PLACED PAR\n", FORM, -1, -1);
        Calls.fault("PLACED PAR\nSKIP", FORM, 1, 0);
        Calls.fault("PLACED PAR\n  SKIP", FORM, 1, 2);
        Calls.fault("PLACED PAR\n  PROCESSOR 6\n    SKIP", FORM, 1, 12);
        Calls.fault("PLACED PAR\n  PROCESSOR\n    SKIP", FORM, 1, 11);
        Calls.fault("PLACED PAR\n  PROCESSOR 1\n  SKIP", FORM, 2, 2);
        Calls.fault("PLACED PAR\n  PROCESSOR 1\n    SKIP\n  PROCESSOR 1\n    SKIP", FORM, 3, 12);
        Calls.fault("PLACED PAR\n  PROCESSOR 1\n    SKIP\nSKIP", FORM, 3, 0);
    }

    private static void processes() {
        fine("SEQ");
        Calls.fault("SEQ SEQ", FORM, 0, 4);
        Calls.fault("SEQ i = 0\n", FORM, 0, 9);
        Calls.fault("SEQ i = 0 FOR 3", FORM, -1, -1);
        Calls.fault("SEQ i = 0 FOR 3\n  SKIP\n  SKIP", FORM, 2, 2);
        Calls.fault("INT x:\nPAR\n  SKIP\n", FORM, -1, -1);
        Calls.fault("SEQ\n  PAR\n    SKIP\n  SKIP", FORM, 3, 2);
        fine("PAR\n" + "  SKIP\n".repeat(8));
        Calls.fault("PAR\n" + "  SKIP\n".repeat(9), FORM, 9, 2);
        fine("PAR i = 2147483647 FOR 8\n  SKIP");
        Calls.fault("PAR i = 0 FOR 0\n  SKIP", FORM, 0, 14);
        Calls.fault("PAR i = 0 FOR 9\n  SKIP", FORM, 0, 14);
        Calls.fault("INT x:\nPAR i = x FOR 2\n  SKIP", FORM, 1, 8);
        Calls.fault("PAR i = 0 FOR 2\n  SKIP\n  SKIP", FORM, 2, 2);
        fine("PRI PAR\n  SKIP\n  SKIP");
        Calls.fault("PRI PAR\n  SKIP", FORM, -1, -1);
        Calls.fault("PRI PAR\n  SKIP\n  SKIP\n  SKIP", FORM, 3, 2);
        Calls.fault("PRI SEQ", FORM, 0, 4);
        Calls.fault("PRI PAR i = 0 FOR 2\n  SKIP", FORM, 0, 8);
        Calls.fault("IF\n", FORM, -1, -1);
        Calls.fault("IF\nSKIP", FORM, 1, 0);
        Calls.fault("IF\n  TRUE\n  SKIP", FORM, 2, 2);
        Calls.fault("IF\n  SKIP", FORM, 1, 2);
        Calls.fault("IF TRUE\n", FORM, 0, 3);
        Calls.fault("WHILE\n", FORM, 0, 5);
        Calls.fault("WHILE TRUE\n", FORM, -1, -1);
        Calls.fault("ALT\n", FORM, -1, -1);
        fine("ALT\n" + "  TRUE & SKIP\n    SKIP\n".repeat(8));
        Calls.fault("ALT\n" + "  TRUE & SKIP\n    SKIP\n".repeat(9), FORM, 17, 2);
        Calls.fault("ALT\n  SKIP\n    SKIP", FORM, 1, 2);
        Calls.fault("[0]INT x:\nSKIP", FORM, 0, 1);
        Calls.fault("[65]INT x:\nSKIP", FORM, 0, 1);
        fine("[64]INT x:\n[1]CHAN y:\nSKIP");
        Calls.fault("[3]SKIP", FORM, 0, 3);
        Calls.fault("INT x: SKIP", FORM, 0, 7);
        Calls.fault("INT x,:", FORM, 0, 6);
        Calls.fault("INT x:\n", FORM, -1, -1);
        Calls.fault("5 := 3", FORM, 0, 0);
        one("x := 1 + 2 + 3", FORM, 11);
        one("x := - - 3", FORM, 7);
        one("x := - 3 + 4", FORM, 9);
        one("x := NOT x AND y", FORM, 11);
        one("x := (1 + 2", FORM, 11);
        one("x := 1)", FORM, 6);
        one("x :=", FORM, 4);
        one("x := ", FORM, 5);
        one("x :=   ", FORM, 7);
        one("c ! ", FORM, 4);
        one("c ? 3", FORM, 4);
    }

    private static void levels() {
        StringBuilder deep = new StringBuilder();
        for (int k = 0; k < 16; k++) {
            deep.append("  ".repeat(k)).append("SEQ\n");
        }
        fine(deep.toString());
        Calls.fault(deep + "  ".repeat(16) + "SKIP", FORM, 16, 32);
        Calls.fault("SEQ\n SKIP", FORM, 1, 1);
        Calls.fault("SEQ\n    SKIP", FORM, 1, 4);
        Calls.fault("SEQ\n  SKIP\n   x := 1", FORM, 2, 3);
        Calls.fault("SEQ\n  INT x:\n    x := 1", FORM, 2, 4);
        Calls.fault("SEQ\n  INT x:\nSKIP", FORM, 2, 0);
        one("x := ((((((((1))))))))", 0, 0);
        one("x := (((((((((1)))))))))", FORM, 13);
        one("x := a[a[a[a[a[a[a[a[1]]]]]]]]", 0, 0);
        one("x := a[a[a[a[a[a[a[a[a[1]]]]]]]]]", FORM, 22);
        one("x := ((((((((x[", KIND, 13);
        one("x := ((((((((a[", FORM, 14);
        one("a[(((((((1)))))))] := 3", 0, 0);
        one("a[((((((((1))))))))] := 3", FORM, 9);
        one("p(((((((((1)))))))), x, a, c)", FORM, 9);
        one("x := (((((((1))))))) + ((((((((2))))))))", 0, 0);
    }

    private static void names() {
        Calls.fault("INT x, y, x:\nSKIP", TWICE, 0, 10);
        Calls.fault("PROC p(INT x, CHAN x)\n  SKIP\n:\nSKIP", TWICE, 0, 19);
        Calls.fault("PROC p()\n  SKIP\n:\nPROC p()\n  SKIP\n:\nSKIP", TWICE, 3, 5);
        Calls.fault("PROC screen()\n  SKIP\n:\nSKIP", TWICE, 0, 5);
        Calls.fault("LINK keys FROM 0 TO 1:\n", TWICE, 0, 5);
        Calls.fault("PROC l()\n  SKIP\n:\nLINK l FROM 0 TO 1:\n", TWICE, 3, 5);
        Calls.fault("LINK l FROM 0 TO 1:\nLINK l FROM 1 TO 0:\n", TWICE, 1, 5);
        fine("INT x:\nINT x:\nCHAN screen, p:\nSKIP");
        fine("PROC p(INT p, INT keys)\n  INT p:\n  p := 1\n:\nINT p:\np := 1");
        fine("SEQ i = 0 FOR 1\n  SEQ i = i FOR i\n    PAR i = 3 FOR 2\n      INT i:\n      i := 1");
        Calls.fault("x := 1", UNKNOWN, 0, 0);
        Calls.fault("x ;", UNKNOWN, 0, 0);
        Calls.fault("SEQ\n  INT x:\n  x := 1\n  x := 2", UNKNOWN, 3, 2);
        Calls.fault("PROC p(INT x)\n  SKIP\n:\nx := 1", UNKNOWN, 3, 0);
        Calls.fault("PROC p()\n  p()\n:\nSKIP", UNKNOWN, 1, 2);
        Calls.fault("SEQ i = i FOR 3\n  SKIP", UNKNOWN, 0, 8);
        Calls.fault("SEQ i = 0 FOR i\n  SKIP", UNKNOWN, 0, 14);
        Calls.fault("INT x:\nSEQ\n  SEQ i = 0 FOR 3\n    SKIP\n  x := i", UNKNOWN, 4, 7);
        Calls.fault("PLACED PAR\n  PROCESSOR 0\n    INT x:\n    SKIP\n  PROCESSOR 1\n    x := 1", UNKNOWN, 5, 4);
        one("x := nil + 1", UNKNOWN, 5);
        one("x := a[nil]", UNKNOWN, 7);
        one("c ? nil", UNKNOWN, 4);
    }

    private static void kinds() {
        one("x := c + ;", KIND, 5);
        one("x := e[0]", KIND, 5);
        one("x := q", KIND, 5);
        one("x := screen", KIND, 5);
        one("x := a", KIND, 5);
        one("x := a ;", KIND, 5);
        one("x := 1 + a", KIND, 9);
        one("x := (a)", KIND, 6);
        one("x := y[0]", KIND, 5);
        one("c ? a", KIND, 4);
        one("c ? y[0]", KIND, 4);
        one("c ? d", KIND, 4);
        one("c ? a[1]", 0, 0);
        Calls.fault("SEQ i = 0 FOR 3\n  i := 1", KIND, 1, 2);
        Calls.fault("PAR i = 0 FOR 3\n  i := 1", KIND, 1, 2);
        Calls.fault("SEQ i = 0 FOR 3\n  keys ? i", KIND, 1, 9);
        Calls.fault("PROC p(VAL INT v)\n  v := 1\n:\nSKIP", KIND, 1, 2);
        Calls.fault("PROC p(VAL INT v)\n  keys ? v\n:\nSKIP", KIND, 1, 9);
        Calls.fault("PROC p(INT r)\n  SKIP\n:\nSEQ i = 0 FOR 3\n  p(i)", KIND, 4, 4);
        Calls.fault("PROC p(CHAN c)\n  c := 1\n:\nSKIP", KIND, 1, 2);
    }

    /** Where a process begins with a name the token behind it tells what it must be. */
    private static void beginnings() {
        one("x ! 1", KIND, 0);
        one("x ? y", KIND, 0);
        one("x ()", KIND, 0);
        one("x [0] := 1", KIND, 0);
        one("c := 1", KIND, 0);
        one("c [0] ! 1", KIND, 0);
        one("q := 1", KIND, 0);
        one("q ! 1", KIND, 0);
        one("q [1]", KIND, 0);
        one("a := 1", KIND, 0);
        one("a[0] ! 1", KIND, 0);
        one("e ! 1", KIND, 0);
        one("e[0] := 1", KIND, 0);
        one("e[1] ! 2", 0, 0);
        one("a ! 1", KIND, 0);
        one("a ? x", KIND, 0);
        one("a (", KIND, 0);
        one("a :=", KIND, 0);
        one("e := 1", KIND, 0);
        one("e ? x", KIND, 0);
        one("e ()", KIND, 0);
        one("a", FORM, 1);
        one("a  ", FORM, 3);
        one("a + 1", FORM, 2);
        one("a & SKIP", FORM, 2);
        one("a 0] := 1", FORM, 2);
        one("a ]", FORM, 2);
        one("a a", FORM, 2);
        one("a ;", FORM, 2);
        one("e", FORM, 1);
        one("e FOO", FORM, 2);
        one("e 12345678901", FORM, 2);
        Calls.fault("PROC p([3]INT v)\n  v\n:\nSKIP", FORM, 1, 3);
        Calls.fault("PROC p([3]INT v)\n  v := 1\n:\nSKIP", KIND, 1, 2);
        // A line of an IF is an E, no PROCESS and no GUARD: there any token behind the array is against it.
        Calls.fault(ALL + "IF\n  a\n    SKIP", KIND, NEXT + 1, 2);
        Calls.fault(ALL + "IF\n  a ;\n    SKIP", KIND, NEXT + 1, 2);
        one("x + 1", FORM, 2);
        one("x", FORM, 1);
        one("q", FORM, 1);
        one("c & SKIP", FORM, 2);
        one("a[0]", FORM, 4);
        one("a[0](1)", FORM, 4);
        one("a[nil] := 1", UNKNOWN, 2);
        one("a[0 := 1", FORM, 4);
        one("q() SKIP", FORM, 4);
    }

    private static void guard(String line, int kind, int place) {
        String text = ALL + "ALT\n  " + line + "\n    SKIP";
        if (kind == 0) {
            fine(text);
        } else {
            Calls.fault(text, kind, NEXT + 1, place);
        }
    }

    private static void guards() {
        guard("c ? x", 0, 0);
        guard("e[0] ? a[1]", 0, 0);
        guard("x & c ? y", 0, 0);
        guard("x > 3 & e[x] ? y", 0, 0);
        guard("a[0] & SKIP", 0, 0);
        guard("NOT (x = 1) & SKIP", 0, 0);
        guard("TRUE & SKIP", 0, 0);
        guard("x ? y", KIND, 2);
        guard("c & SKIP", KIND, 2);
        guard("c + 1 & SKIP", KIND, 2);
        guard("a ? x", KIND, 2);
        guard("a & SKIP", KIND, 2);
        guard("e ? x", KIND, 2);
        guard("e[0] & SKIP", KIND, 2);
        guard("a[0] ? x", KIND, 2);
        guard("x[0] & SKIP", KIND, 2);
        guard("q & SKIP", KIND, 2);
        guard("a + 1 & SKIP", KIND, 2);
        guard("a AND", KIND, 2);
        guard("e & SKIP", KIND, 2);
        guard("e < 1 & SKIP", KIND, 2);
        guard("a", FORM, 3);
        guard("a := 1", FORM, 4);
        guard("a ! 1", FORM, 4);
        guard("a (0)", FORM, 4);
        guard("e", FORM, 3);
        guard("e NOT", FORM, 4);
        guard("e ;", FORM, 4);
        guard("TRUE & e", KIND, 9);
        guard("TRUE & e ;", KIND, 9);
        guard("x + a", KIND, 6);
        guard("(a) & SKIP", KIND, 3);
        guard("c ? a", KIND, 6);
        guard("q()", FORM, 3);
        guard("c ! 1", FORM, 4);
        guard("x := 1", FORM, 4);
        guard("c", FORM, 3);
        guard("x = 1 ? y", FORM, 8);
        guard("TRUE", FORM, 6);
        guard("TRUE & TRUE", FORM, 9);
        guard("TRUE & x ? y", KIND, 9);
        guard("TRUE & e ? y", KIND, 9);
        guard("TRUE & c ! y", FORM, 11);
        guard("TRUE & SKIP ? x", FORM, 14);
        guard("c ? d", KIND, 6);
        guard("c ? 3", FORM, 6);
        guard("nil ? x", UNKNOWN, 2);
    }

    private static void arguments() {
        one("p(1, x, a, c)", 0, 0);
        one("p(x + 1, a[0], b, e[1])", 0, 0);
        one("q()", 0, 0);
        one("q( )", 0, 0);
        one("q(1)", FORM, 2);
        one("q(nil)", FORM, 2);
        one("q(,)", FORM, 2);
        one("q(", FORM, 2);
        one("p()", KIND, 2);
        one("p(1)", KIND, 3);
        one("p(1, x, a)", KIND, 9);
        one("p(1, )", KIND, 5);
        one("p(1, x, a, c, 1)", KIND, 12);
        one("p(1, x, a, c,)", KIND, 12);
        one("p(1, x, a, c", FORM, 12);
        one("p(1 2", FORM, 4);
        one("p(1, x y", FORM, 7);
        one("p(", FORM, 2);
        one("p(,", FORM, 2);
        one("p(1 +)", FORM, 5);
        one("p(1,", KIND, 4);
        one("p(1, 2, a, c)", KIND, 5);
        one("p(1, (x), a, c)", KIND, 5);
        one("p(1, ,", KIND, 5);
        one("p(1, FOO", KIND, 5);
        one("p(1, ;", KIND, 5);
        one("p(1, abcdefghijk", KIND, 5);
        one("p(1, nil, a, c)", UNKNOWN, 5);
        one("p(1, c, a, c)", KIND, 5);
        one("p(1, a, a, c)", KIND, 5);
        one("p(1, x[0], a, c)", KIND, 5);
        one("p(1, x, z, c)", KIND, 8);
        one("p(1, x, x, c)", KIND, 8);
        one("p(1, x, a[0], c)", KIND, 8);
        one("p(1, x, a, x)", KIND, 11);
        one("p(1, x, a, e)", KIND, 11);
        one("p(1, x, a, c[0])", KIND, 11);
        one("p(c, x, a, c)", KIND, 2);
        one("p(a, x, a, c)", KIND, 2);
    }

    private static void tooMuch() {
        StringBuilder procs = new StringBuilder();
        for (int k = 0; k < 24; k++) {
            procs.append("PROC p").append(k).append("()\n  SKIP\n:\n");
        }
        fine(procs + "SKIP");
        Calls.fault(procs + "PROC last()\n", TOO_MUCH, 72, 5);
        Calls.fault(procs + "PROC p3()\n", TWICE, 72, 5);
        StringBuilder links = new StringBuilder();
        for (int k = 0; k < 12; k++) {
            links.append("LINK l").append(k).append(" FROM 0 TO 1:\n");
        }
        fine(links + "PLACED PAR\n  PROCESSOR 0\n    SKIP");
        Calls.fault(links + "LINK last FROM 0 TO 1:\n", TOO_MUCH, 12, 5);
        StringBuilder many = new StringBuilder("INT n0");
        for (int k = 1; k < 199; k++) {
            many.append(",n").append(k);
        }
        fine(many + ":\nINT x:\nSKIP");
        fine(many + ":\nSEQ i = 0 FOR 1\n  SKIP");
        Calls.fault(many + ":\nINT x, y:\nSKIP", TOO_MUCH, 1, 7);
        Calls.fault(many + ":\nINT x, x:\nSKIP", TWICE, 1, 7);
        Calls.fault(many + ":\nINT x:\nSEQ i = 0 FOR 1\n  SKIP", TOO_MUCH, 2, 4);
        Calls.fault(many + ":\nINT x:\nPAR i = 0 FOR 1\n  SKIP", TOO_MUCH, 2, 4);
    }

    private static String arrays(int words) {
        StringBuilder all = new StringBuilder();
        for (int left = words; left > 0; left -= 64) {
            all.append('[').append(Math.min(left, 64)).append("]INT a:\n");
        }
        return all.toString();
    }

    /** A processor or PROC has 4000 words at most: size (word 0 too), depth and three. */
    private static void words() {
        fine(arrays(3996) + "SKIP");
        Calls.fault(arrays(3997) + "SKIP", TOO_MUCH, -1, -1);
        String body = "  " + arrays(3996).replace("\n", "\n  ");
        fine("PROC p()\n" + body + "SKIP\n:\nSKIP");
        Calls.fault("PROC p()\n" + body + "SKIP\n:\np()", TOO_MUCH, -1, -1);
        Calls.fault("PROC p()\n" + body + "INT x:\n  SKIP\n:\nSKIP", TOO_MUCH, -1, -1);
        StringBuilder nest = new StringBuilder();
        for (int k = 0; k < 15; k++) {
            nest.append("  ".repeat(k)).append("PAR i = 0 FOR 8\n");
        }
        Calls.fault(nest + "  ".repeat(15) + "SKIP", TOO_MUCH, -1, -1);
        Calls.fault(arrays(3997) + "PAR\n  a[0] := 1\n  a[0] := 2", TOO_MUCH, -1, -1);
    }

    /** A text with many bytes: 64 branches of some lines each, and then lines that add what is told. */
    private static String bytes(int lines, int more) {
        String text = "INT x:\nSEQ\n  PAR i = 0 FOR 8\n    PAR j = 0 FOR 8\n      INT y:\n      SEQ\n"
            + "        y := 70000\n".repeat(lines);
        int twos = more % 9 % 2 == 0 ? more % 9 / 2 : more % 9 / 2 - 1;
        return text + "  x := 2147483647\n".repeat(more / 9) + (more % 9 % 2 == 0 ? "" : "  x := 16\n") + "  x := 0\n".repeat(twos);
    }

    private static void codeBytes() {
        int base = 0;
        int lines = 1;
        while (Calls.object(bytes(lines + 1, 0)).fault(0) == 0 && lines < 60) {
            lines++;
        }
        LinkedCores largest = Calls.object(bytes(lines, 0));
        base = largest.processor(0, 0);
        Calls.due("64 lines of six bytes are too much", base + 64 * 6 > 6000 ? 1 : 0, 1);
        int more = 6000 - base;
        LinkedCores full = Calls.good(bytes(lines, more));
        Calls.due("as many as there may be", full.processor(0, 0), 6000);
        Calls.fault(bytes(lines, more + 2), TOO_MUCH, -1, -1);
        String one = bytes(lines, more).replaceFirst("x := 2147483647", "x := 1").concat("  x := 2147483647\n");
        Calls.due("the same in another order", Calls.good(one.substring(0, one.lastIndexOf("  x"))).processor(0, 0), 5993);
        Calls.fault(bytes(lines, 0) + "  x := 2147483647\n".repeat(43), TOO_MUCH, -1, -1);
        Calls.fault(bytes(60, 0).replace("y := 70000", "x := 70000"), 5, 2, -1);
    }
}
