/** Terms 1, the grammar: how many of each may be there, from both sides of each bound. */
public final class GrammarBoundsTest {
    private static final int FORM = 1;
    private static final int KIND = 4;

    public static void main(String[] args) {
        procs();
        parameters();
        links();
        processors();
        declarations();
        sequences();
        parallels();
        indexedParallels();
        priorities();
        choices();
        loops();
        alternatives();
        expressions();
        brackets();
        textsEnd();
        Calls.close();
    }

    private static void fine(String text) {
        Calls.good(text);
    }

    private static void form(String text, int line, int place) {
        Calls.fault(text, FORM, line, place);
    }

    /** PROCs stand ahead of all else; each has a head, one process at level 1, and a line with : alone. */
    private static void procs() {
        String p = "PROC p()\n  SKIP\n:\n";
        fine("SKIP");
        fine(p + "SKIP");
        fine(p + p.replace("p(", "q(") + "p()");
        fine("PROC p ( )\n  SKIP\n :\nSKIP".replace(" :\n", ":\n"));
        form(p, -1, -1);
        form("PROC p()\n  SKIP", -1, -1);
        form("PROC p()\n", -1, -1);
        form("PROC p()\n:\nSKIP", 1, 0);
        form("PROC p()\n  SKIP\n  SKIP\n:\nSKIP", 2, 2);
        form("PROC p()\n    SKIP\n:\nSKIP", 1, 4);
        form("PROC p()\n  SKIP\n :\nSKIP", 2, 1);
        form("PROC p()\n  SKIP\n  :\nSKIP", 2, 2);
        form("PROC p()\n  SKIP\n:SKIP", 2, 1);
        form("PROC p()\n  SKIP\nSKIP\n:\n", 2, 0);
        form(" PROC p()\n  SKIP\n:\nSKIP", 0, 1);
        form("  PROC p()\n  SKIP\n:\nSKIP", 0, 2);
        form("SKIP\n" + p, 1, 0);
        form("SEQ\n  PROC p()\n", 1, 2);
        form(p + "PLACED PAR\n  PROCESSOR 0\n    SKIP\n" + p, 6, 0);
        form("PROC ()\n", 0, 5);
        form("PROC p\n", 0, 6);
        form("PROC p(\n", 0, 7);
        form("PROC p() :\n", 0, 9);
        form("PROC p)\n", 0, 6);
        form("PROC SEQ()\n", 0, 5);
    }

    private static String head(int parameters) {
        StringBuilder all = new StringBuilder("PROC p(");
        for (int k = 0; k < parameters; k++) {
            all.append(k == 0 ? "" : ",").append("INT a").append(k);
        }
        return all.toString();
    }

    private static void parameters() {
        for (int k = 0; k <= 6; k++) {
            fine(head(k) + ")\n  SKIP\n:\nSKIP");
            form(head(k) + "\n  SKIP\n:\nSKIP", 0, head(k).length());
        }
        form(head(7) + ")\n  SKIP\n:\nSKIP", 0, head(6).length());
        form(head(6) + ",)\n", 0, head(6).length());
        form(head(6) + ",;", 0, head(6).length());
        form(head(5) + ",)\n", 0, head(5).length() + 1);
        form(head(1) + " INT b)\n", 0, head(1).length() + 1);
        form("PROC p(,INT a)\n", 0, 7);
        form("PROC p(a)\n", 0, 7);
        form("PROC p(VAL INT)\n", 0, 14);
        form("PROC p(VAL CHAN c)\n", 0, 11);
        form("PROC p(VAL [3]INT c)\n", 0, 11);
        form("PROC p(INT)\n", 0, 10);
        form("PROC p(INT a b)\n", 0, 13);
        form("PROC p(CHAN)\n", 0, 11);
        form("PROC p(INT a:\n", 0, 12);
        for (String type : new String[] {"VAL INT ", "INT ", "[1]INT ", "[64]INT ", "[ 64 ] INT ", "CHAN "}) {
            fine("PROC p(" + type + "a)\n  SKIP\n:\nSKIP");
        }
        form("PROC p([0]INT a)\n", 0, 8);
        form("PROC p([65]INT a)\n", 0, 8);
        form("PROC p([2147483647]INT a)\n", 0, 8);
        form("PROC p([]INT a)\n", 0, 8);
        form("PROC p([-1]INT a)\n", 0, 8);
        form("PROC p([3]CHAN a)\n", 0, 10);
        form("PROC p([3]a)\n", 0, 10);
        form("PROC p([3 INT a)\n", 0, 10);
        form("PROC p([TRUE]INT a)\n", 0, 8);
    }

    private static final String PLACED = "PLACED PAR\n  PROCESSOR 0\n    SKIP";

    private static void links() {
        for (int from = 0; from <= 6; from++) {
            for (int to = 0; to <= 6; to++) {
                String text = "LINK l FROM " + from + " TO " + to + ":\n" + PLACED;
                if (from > 5) {
                    form(text, 0, 12);
                } else if (to > 5 || to == from) {
                    form(text, 0, 17);
                } else {
                    LinkedCores x = Calls.good(text);
                    Calls.due("FROM and TO", x.link(0, 0) + " " + x.link(0, 1), from + " " + to);
                }
            }
        }
        form("LINK l FROM 01 TO 0001:\n" + PLACED, 0, 18);
        form("LINK FROM 0 TO 1:\n", 0, 5);
        form("LINK l TO 1:\n", 0, 7);
        form("LINK l FROM 0 FROM 1:\n", 0, 14);
        form("LINK l FROM x TO 1:\n", 0, 12);
        form("LINK l FROM 0 TO 1\n", 0, 18);
        form("LINK l, m FROM 0 TO 1:\n", 0, 6);
        form("LINK l FROM 0 TO 1: :\n", 0, 20);
        form("  LINK l FROM 0 TO 1:\n", 0, 2);
        String l = "LINK l FROM 0 TO 1:\n";
        form(l, -1, -1);
        form(l + "SKIP", 1, 0);
        form(l + "INT x:\nSKIP", 1, 0);
        form(l + "  " + PLACED, 1, 2);
        form(l + "PROC p()\n  SKIP\n:\n" + PLACED, 1, 0);
        form(PLACED + "\n" + l, 3, 0);
        fine("PROC p()\n  SKIP\n:\n" + l + PLACED);
    }

    private static void processors() {
        for (int p = 0; p <= 6; p++) {
            String text = "PLACED PAR\n  PROCESSOR " + p + "\n    SKIP";
            if (p > 5) {
                form(text, 1, 12);
            } else {
                fine(text);
                form(text + "\n  PROCESSOR " + p + "\n    SKIP", 3, 12);
                fine(text + "\n  PROCESSOR " + (p + 1) % 6 + "\n    SKIP");
                form(text + "\n  PROCESSOR " + (p + 1) % 6 + "\n    SKIP\n  PROCESSOR " + p + ";", 5, 12);
            }
        }
        StringBuilder all = new StringBuilder("PLACED PAR\n");
        for (int p = 5; p >= 0; p--) {
            all.append("  PROCESSOR ").append(p).append("\n    SKIP\n");
        }
        fine(all.toString());
        form(all + "  PROCESSOR 3\n    SKIP", 13, 12);
        form(all + "  PROCESSOR 6\n    SKIP", 13, 12);
        form("PLACED PAR\n", -1, -1);
        form("PLACED PAR\n  PROCESSOR 0\n", -1, -1);
        form("PLACED PAR\n  PROCESSOR 0\n  PROCESSOR 1\n    SKIP", 2, 2);
        form("PLACED PAR\n  PROCESSOR 0\n    SKIP\n    SKIP", 3, 4);
        form("PLACED PAR\n  PROCESSOR 0\n      SKIP", 2, 6);
        form("PLACED PAR\nPROCESSOR 0\n  SKIP", 1, 0);
        form("PLACED PAR\n    PROCESSOR 0\n      SKIP", 1, 4);
        form("PLACED PAR\n  PROCESSOR\n", 1, 11);
        form("PLACED PAR\n  PROCESSOR 0 1\n", 1, 14);
        form("PLACED PAR\n  PROCESSOR - 1\n", 1, 12);
        form("PLACED\n", 0, 6);
        form("PLACED SEQ\n", 0, 7);
        form("PLACED PAR PAR\n", 0, 11);
        form("INT x:\nPLACED PAR\n", 1, 0);
        form("SEQ\n  PLACED PAR\n", 1, 2);
    }

    private static void declarations() {
        for (String type : new String[] {"INT", "CHAN"}) {
            fine(type + " a:\nSKIP");
            fine(type + " a,b , c:\nSKIP");
            for (int n : new int[] {1, 2, 63, 64}) {
                fine("[" + n + "]" + type + " a,b:\nSKIP");
            }
            for (String n : new String[] {"0", "65", "00", "65536", "2147483647", "x", "-1", ""}) {
                form("[" + n + "]" + type + " a:\nSKIP", 0, 1);
            }
            form(type + " :\nSKIP", 0, type.length() + 1);
            form(type + " a,:\nSKIP", 0, type.length() + 3);
            form(type + " ,a:\nSKIP", 0, type.length() + 1);
            form(type + " a b:\nSKIP", 0, type.length() + 3);
            form(type + " a\nSKIP", 0, type.length() + 2);
            form(type + " a: SKIP", 0, type.length() + 4);
            form(type + " a:", -1, -1);
            form(type + " a:\n" + type + " b:\n", -1, -1);
            form(type + " a:\n  SKIP", 1, 2);
            form("SEQ\n  " + type + " a:\n", -1, -1);
            form("SEQ\n  " + type + " a:\nSKIP", 2, 0);
            fine("SEQ\n  " + type + " a:\n  SKIP");
            form("[3" + type + " a:\n", 0, 2);
            form("[3] a:\n", 0, 4);
        }
        form("VAL INT a:\nSKIP", 0, 0);
        form("[3]VAL INT a:\nSKIP", 0, 3);
        fine("INT a:\n".repeat(50) + "SKIP");
    }

    private static void sequences() {
        fine("SEQ");
        fine("SEQ\n  SKIP");
        fine("SEQ\n" + "  SKIP\n".repeat(100));
        form("SEQ SKIP", 0, 4);
        form("SEQ\nSKIP", 1, 0);
        form("SEQ\n  SKIP\nSKIP", 2, 0);
        form("SEQ\n  SKIP\n    SKIP", 2, 4);
        fine("SEQ i = 0 FOR 0\n  SKIP");
        form("SEQ i = 0 FOR 2", -1, -1);
        form("SEQ i = 0 FOR 2\nSKIP", 1, 0);
        form("SEQ i = 0 FOR 2\n    SKIP", 1, 4);
        form("SEQ i = 0 FOR 2\n  SKIP\n  SKIP", 2, 2);
        form("SEQ i 0 FOR 2\n", 0, 6);
        form("SEQ i = FOR 2\n", 0, 8);
        form("SEQ i = 0 FOR\n", 0, 13);
        form("SEQ i = 0 FOR 2 3\n", 0, 16);
        form("SEQ = 0 FOR 2\n", 0, 4);
        form("SEQ 1 = 0 FOR 2\n", 0, 4);
        form("SEQ i := 0 FOR 2\n", 0, 6);
        form("SEQ i[0] = 0 FOR 2\n", 0, 5);
    }

    private static void parallels() {
        form("PAR", -1, -1);
        form("PAR\n  SKIP", -1, -1);
        form("SEQ\n  PAR\n    SKIP\n  SKIP", 3, 2);
        form("SEQ\n  PAR\n  SKIP", 2, 2);
        for (int k = 2; k <= 8; k++) {
            fine("PAR\n" + "  SKIP\n".repeat(k));
        }
        form("PAR\n" + "  SKIP\n".repeat(9), 9, 2);
        form("PAR\n" + "  SKIP\n".repeat(8) + "  nil := 1", 9, 2);
        form("PAR\n" + "  SKIP\n".repeat(8) + "    SKIP", 9, 4);
        fine("SEQ\n  PAR\n" + "    SKIP\n".repeat(8) + "  SKIP");
        form("SEQ\n  PAR\n" + "    SKIP\n".repeat(9) + "  SKIP", 10, 4);
        form("PAR SKIP", 0, 4);
        form("PAR\nSKIP", 1, 0);
    }

    private static void indexedParallels() {
        for (int k = 0; k <= 9; k++) {
            String text = "PAR i = 0 FOR " + k + "\n  SKIP";
            if (k < 1 || k > 8) {
                form(text, 0, 14);
            } else {
                fine(text);
            }
        }
        form("PAR i = 0 FOR 2147483647\n  SKIP", 0, 14);
        fine("PAR i = 2147483647 FOR 1\n  SKIP");
        form("PAR i = 2147483648 FOR 1\n  SKIP", 0, 8);
        form("PAR i = (0) FOR 1\n  SKIP", 0, 8);
        form("PAR i = - 1 FOR 1\n  SKIP", 0, 8);
        form("PAR i = TRUE FOR 1\n  SKIP", 0, 8);
        form("PAR i = 0 FOR TRUE\n  SKIP", 0, 14);
        form("PAR i = 0 + 1 FOR 2\n  SKIP", 0, 10);
        form("PAR i = 0 FOR 2 + 1\n  SKIP", 0, 16);
        form("PAR i = 0\n", 0, 9);
        form("PAR i = 0 FOR 2", -1, -1);
        form("PAR i = 0 FOR 2\n  SKIP\n  SKIP", 2, 2);
    }

    private static void priorities() {
        form("PRI PAR\n", -1, -1);
        form("PRI PAR\n  SKIP", -1, -1);
        fine("PRI PAR\n  SKIP\n  SKIP");
        form("PRI PAR\n  SKIP\n  SKIP\n  SKIP", 3, 2);
        form("PRI PAR\n  SKIP\n  SKIP\n  ;", 3, 2);
        form("PRI\n", 0, 3);
        form("PRI ALT\n", 0, 4);
        form("PRI PAR i = 0 FOR 2\n", 0, 8);
    }

    private static void choices() {
        form("IF", -1, -1);
        form("IF\nSKIP", 1, 0);
        form("IF\n    TRUE\n      SKIP", 1, 4);
        fine("IF\n" + "  FALSE\n    SKIP\n".repeat(50));
        form("IF\n  TRUE", -1, -1);
        form("IF\n  TRUE\n  FALSE\n    SKIP", 2, 2);
        form("IF\n  TRUE\n    SKIP\n    SKIP", 3, 4);
        form("IF\n  TRUE\n      SKIP", 2, 6);
        form("IF\n  TRUE SKIP", 1, 7);
        form("IF\n  SKIP", 1, 2);
        form("IF\n  INT x:\n  TRUE\n    SKIP", 1, 2);
        fine("IF\n  TRUE\n    INT x:\n    SKIP");
        form("IF TRUE\n", 0, 3);
    }

    private static void loops() {
        form("WHILE TRUE", -1, -1);
        fine("WHILE TRUE\n  SKIP");
        form("WHILE TRUE\nSKIP", 1, 0);
        form("WHILE TRUE\n  SKIP\n  SKIP", 2, 2);
        form("WHILE TRUE\n    SKIP", 1, 4);
        form("WHILE", 0, 5);
        form("WHILE TRUE TRUE\n", 0, 11);
    }

    private static void alternatives() {
        String guard = "  TRUE & SKIP\n    SKIP\n";
        form("ALT", -1, -1);
        form("ALT\nSKIP", 1, 0);
        for (int k = 1; k <= 8; k++) {
            fine("ALT\n" + guard.repeat(k));
        }
        form("ALT\n" + guard.repeat(9), 17, 2);
        form("ALT\n" + guard.repeat(8) + "  nil ? nil\n", 17, 2);
        form("ALT\n  TRUE & SKIP", -1, -1);
        form("ALT\n  TRUE & SKIP\n  TRUE & SKIP\n    SKIP", 2, 2);
        form("ALT\n  TRUE & SKIP\n    SKIP\n    SKIP", 3, 4);
        form("ALT\n  TRUE & SKIP\n      SKIP", 2, 6);
        form("ALT\n  INT x:\n  keys ? x\n    SKIP", 1, 2);
        form("ALT\n  SKIP\n    SKIP", 1, 2);
        form("ALT\n  TRUE\n    SKIP", 1, 6);
        form("ALT\n  TRUE & STOP\n    SKIP", 1, 9);
        form("ALT\n  TRUE & TRUE & SKIP\n    SKIP", 1, 9);
        form("ALT\n  & SKIP\n    SKIP", 1, 2);
        form("ALT SKIP", 0, 4);
    }

    private static final String NAMES = "INT x, y:\n[4]INT a:\n[4]CHAN c:\n";

    /** A line behind NAMES. */
    private static void one(String line, int kind, int place) {
        if (kind == 0) {
            fine(NAMES + line);
        } else {
            Calls.fault(NAMES + line, kind, 3, place);
        }
    }

    /** An E has one sign at most, or one - or NOT ahead. */
    private static void expressions() {
        one("x := y", 0, 0);
        one("x := y + 1", 0, 0);
        one("x := y + 1 + 1", FORM, 11);
        one("x := (y + 1) + 1", 0, 0);
        one("x := - y", 0, 0);
        one("x := NOT y", 0, 0);
        one("x := - - y", FORM, 7);
        one("x := NOT NOT y", FORM, 9);
        one("x := - NOT y", FORM, 7);
        one("x := NOT - y", FORM, 9);
        one("x := - y + 1", FORM, 9);
        one("x := NOT y = 1", FORM, 11);
        one("x := 1 + - y", FORM, 9);
        one("x := 1 + NOT y", FORM, 9);
        one("x := 1 + (- y)", 0, 0);
        one("x := + y", FORM, 5);
        one("x := y +", FORM, 8);
        one("x := y NOT 1", FORM, 7);
        one("x := ()", FORM, 6);
        one("x := (y", FORM, 7);
        one("x := y)", FORM, 6);
        one("x := (y]", FORM, 7);
        one("x := a[1)", FORM, 8);
        one("x := a[]", FORM, 7);
        one("x := a[1", FORM, 8);
        one("x := a[1, 2]", FORM, 8);
        one("x := a[1][2]", FORM, 9);
        one("x := 3[1]", FORM, 6);
        one("x := TRUE", 0, 0);
        one("x := SKIP", FORM, 5);
        one("x := y := 1", FORM, 7);
        one("x, y := 1", FORM, 1);
        one("c[0] ! 1 ! 2", FORM, 9);
        one("c[0] ? x ? y", FORM, 9);
        one("c[0] ? x, y", FORM, 8);
        one("c[0] ? 1", FORM, 7);
        one("c[0] ? (x)", FORM, 7);
        one("c[0] ! ", FORM, 7);
        one("(x) := 1", FORM, 0);
        one("1 := 1", FORM, 0);
        one("TRUE", FORM, 0);
    }

    private static String deep(String open, String inner, String close, int times) {
        return open.repeat(times) + inner + close.repeat(times);
    }

    /** Eight ( and [ may be open in one another; a ninth is FORM where it stands; those that were closed don't count. */
    private static void brackets() {
        for (int k = 0; k <= 8; k++) {
            one("x := " + deep("(", "y", ")", k), 0, 0);
            one("x := " + deep("a[", "y", "]", k), 0, 0);
            one("x := " + deep("(", deep("a[", "y", "]", 8 - k), ")", k), 0, 0);
            one("x := " + deep("(", "", "", k) + "a[(((((((((", FORM, 14);
        }
        one("x := " + deep("(", "y", ")", 9), FORM, 13);
        one("x := " + deep("a[", "y", "]", 9), FORM, 22);
        one("x := " + deep("(", "a[y]", ")", 8), FORM, 14);
        one("x := " + deep("a[", "(y)", "]", 8), FORM, 21);
        one("x := " + deep("(", "y", ")", 8) + " + " + deep("(", "y", ")", 8), 0, 0);
        one("x := " + deep("(", "y", ")", 8) + " + " + deep("(", "y", ")", 9), FORM, 33);
        one("a[" + deep("(", "y", ")", 7) + "] := " + deep("(", "y", ")", 8), 0, 0);
        one("a[" + deep("(", "y", ")", 8) + "] := 1", FORM, 9);
        one("c[" + deep("(", "y", ")", 7) + "] ! " + deep("(", "y", ")", 8), 0, 0);
        one("c[0] ? a[" + deep("(", "y", ")", 7) + "]", 0, 0);
        one("c[0] ? a[" + deep("(", "y", ")", 8) + "]", FORM, 16);
        // a name with a [ behind it is judged ahead of that [, also when it would be one too many
        one("x := " + deep("(", "y[0]", ")", 8), KIND, 13);
        one("x := " + deep("(", "c[0]", ")", 8), KIND, 13);
        String call = "PROC p(VAL INT v)\n  SKIP\n:\n";
        fine(call + "p(" + deep("(", "1", ")", 7) + ")");
        Calls.fault(call + "p(" + deep("(", "1", ")", 8) + ")", FORM, 3, 9);
        // each line begins anew
        fine("SEQ\n" + ("  screen ! " + deep("(", "1", ")", 8) + "\n").repeat(3));
        fine("IF\n  " + deep("(", "1", ")", 8) + "\n    WHILE " + deep("(", "0", ")", 8) + "\n      SKIP");
        Calls.fault("IF\n  " + deep("(", "1", ")", 9) + "\n    SKIP", FORM, 1, 10);
        Calls.fault("WHILE " + deep("(", "1", ")", 9) + "\n  SKIP", FORM, 0, 14);
        fine("SEQ i = " + deep("(", "1", ")", 8) + " FOR " + deep("(", "1", ")", 8) + "\n  SKIP");
        fine("ALT\n  " + deep("(", "1", ")", 8) + " & SKIP\n    SKIP");
        Calls.fault("ALT\n  " + deep("(", "1", ")", 9) + " & SKIP\n    SKIP", FORM, 1, 10);
    }

    /** A text that ends too early has its fault at its end, with and without a last line end. */
    private static void textsEnd() {
        for (String text : new String[] {"PROC p()", "PROC p()\n  SKIP", "PROC p()\n  SKIP\n:", "LINK l FROM 0 TO 1:", "PLACED PAR",
            "PLACED PAR\n  PROCESSOR 0", "INT x:", "SEQ i = 0 FOR 1", "PAR", "PAR\n  SKIP", "PAR i = 0 FOR 1", "PRI PAR", "PRI PAR\n  SKIP",
            "IF", "IF\n  TRUE", "WHILE TRUE", "ALT", "ALT\n  TRUE & SKIP", "SEQ\n  IF", "SEQ\n  SKIP\n  INT x:"}) {
            form(text, -1, -1);
            form(text + "\n", -1, -1);
            form(text + "\n   \n -- SKIP\n", -1, -1);
            form(text + " --", -1, -1);
        }
    }
}
