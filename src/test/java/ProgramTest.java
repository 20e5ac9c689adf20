/** Promises 6 to 9: what the program is, byte by byte. */
public final class ProgramTest {
    public static void main(String[] args) {
        prefixes();
        expressions();
        simple();
        constructs();
        calls();
        par();
        alt();
        placed();
        workspaces();
        faces();
        links();
        Calls.close();
    }

    private static String bytes(LinkedCores x, int from, int to) {
        StringBuilder all = new StringBuilder();
        for (int k = from; k < to; k++) {
            all.append(String.format("%02x", x.code(0, k)));
        }
        return all.toString();
    }

    /** The bytes of LDC v, or of LDLP w, behind the declaration of x. */
    private static void loads(String v, String want) {
        LinkedCores x = Calls.good("INT x:\nx := " + v);
        Calls.due("bytes of LDC " + v, bytes(x, 4, x.processor(0, 0) - 3), want);
        Calls.due("operand", x.instruction(0, 4, 1), Integer.parseInt(v));
        Calls.due("length", x.instruction(0, 4, 2), want.length() / 2);
        Calls.due("function", x.instruction(0, 4, 0), 4);
    }

    private static void prefixes() {
        loads("0", "40");
        loads("15", "4f");
        loads("16", "2140");
        loads("255", "2f4f");
        loads("256", "212040");
        loads("70000", "2121212740");
        loads("2147483647", "272f2f2f2f2f2f4f");
        // LDC -1 of a channel, and what lies below W
        LinkedCores c = Calls.good("CHAN c:\nSKIP");
        Calls.due("LDC -1", bytes(c, 0, 2), "604f");
        Calls.due("its operand", c.instruction(0, 0, 1), -1);
        below("", -4, "601c");
        below("  [12]INT a:\n", -16, "6010");
        below("  [13]INT a:\n", -17, "611f");
        below("  [64]INT a:\n  [64]INT b:\n  [64]INT c:\n  [60]INT d:\n", -256, "6f10");
        below("  [64]INT a:\n  [64]INT b:\n  [64]INT c:\n  [61]INT d:\n", -257, "21601f");
        // the numbers of a PAR's index wrap
        LinkedCores w = Calls.good("PAR i = 2147483647 FOR 2\n  INT x:\n  x := i");
        String all = Calls.listing(w, 0, 0);
        Calls.due("wrapped", all.contains("LDC -2147483648 STL 1") ? 1 : 0, 1);
    }

    /** The first branch's W lies below by 3 and its size. */
    private static void below(String names, int want, String code) {
        LinkedCores x = Calls.good("PAR\n" + names + "  SKIP\n  SKIP");
        int at = 0;
        for (int k = 0; k < 99 && x.instruction(0, at, 0) != 1; k++) {
            at += x.instruction(0, at, 2);
        }
        Calls.due("LDLP", x.instruction(0, at, 1), want);
        Calls.due("its bytes", bytes(x, at, at + x.instruction(0, at, 2)), code);
    }

    private static void value(String e, String want) {
        Calls.code("INT x, y:\n[3]INT a:\nx := " + e, "LDC 0 LDC 1 LDLP 1 FILL LDC 0 LDC 1 LDLP 2 FILL LDC 0 LDC 3 LDLP 3 FILL "
            + want + " STL 1 DONE");
    }

    private static void expressions() {
        value("TRUE", "LDC 1");
        value("FALSE", "LDC 0");
        value("((y))", "LDL 2");
        value("a[2]", "LDC 2 LDC 3 CHECK LDLP 3 WSUB LDNL 0");
        value("x + y", "LDL 1 LDL 2 ADD");
        value("x - 1", "LDL 1 LDC 1 SUB");
        value("x * ((y))", "LDL 1 LDL 2 MUL");
        value("x / TRUE", "LDL 1 LDC 1 DIV");
        value("x \\ y", "LDL 1 LDL 2 REM");
        value("x << y", "LDL 1 LDL 2 SHL");
        value("x >> y", "LDL 1 LDL 2 SHR");
        value("x /\\ y", "LDL 1 LDL 2 AND");
        value("x \\/ y", "LDL 1 LDL 2 OR");
        value("x > y", "LDL 1 LDL 2 GT");
        value("x < y", "LDL 1 LDL 2 REV GT");
        value("x <= y", "LDL 1 LDL 2 GT EQC 0");
        value("x >= y", "LDL 1 LDL 2 REV GT EQC 0");
        value("x = y", "LDL 1 LDL 2 SUB EQC 0");
        value("x <> y", "LDL 1 LDL 2 SUB EQC 0 EQC 0");
        value("x AND y", "LDL 1 CJ 3 LDL 2 EQC 0 EQC 0");
        value("x OR y", "LDL 1 EQC 0 CJ 2 LDL 2 EQC 0 EQC 0");
        value("- x", "LDL 1 LDC 0 REV SUB");
        value("NOT x", "LDL 1 EQC 0");
        value("x + a[1]", "LDC 1 LDC 3 CHECK LDLP 3 WSUB LDNL 0 STL 6 LDL 1 LDL 6 ADD");
        value("x + (- y)", "LDL 2 LDC 0 REV SUB STL 6 LDL 1 LDL 6 ADD");
        value("x + (y + (x * a[0]))", "LDC 0 LDC 3 CHECK LDLP 3 WSUB LDNL 0 STL 6 LDL 1 LDL 6 MUL STL 6 LDL 2 LDL 6 ADD "
            + "STL 6 LDL 1 LDL 6 ADD");
        value("(x - (y + 1)) * (x + 2)", "LDL 1 LDC 2 ADD STL 6 LDL 2 LDC 1 ADD STL 7 LDL 1 LDL 7 SUB LDL 6 MUL");
        value("(x + (y + 1)) AND (x + (y + 2))", "LDL 2 LDC 1 ADD STL 6 LDL 1 LDL 6 ADD CJ 9 "
            + "LDL 2 LDC 2 ADD STL 6 LDL 1 LDL 6 ADD EQC 0 EQC 0");
        value("a[x + (y + 1)]", "LDL 2 LDC 1 ADD STL 6 LDL 1 LDL 6 ADD LDC 3 CHECK LDLP 3 WSUB LDNL 0");
    }

    private static void simple() {
        Calls.code("SKIP", "DONE");
        Calls.code("STOP", "STOPP DONE");
        Calls.code("[3]INT a:\na[1] := 2", "LDC 0 LDC 3 LDLP 1 FILL LDC 2 LDC 1 LDC 3 CHECK LDLP 1 WSUB STNL 0 DONE");
        Calls.code("CHAN c:\nc ! 4", "LDC -1 LDC 1 LDLP 1 FILL LDC 4 LDLP 1 OUT DONE");
        Calls.code("[2]CHAN c:\nINT x:\nc[1] ? x",
            "LDC -1 LDC 2 LDLP 1 FILL LDC 0 LDC 1 LDLP 3 FILL LDLP 3 LDC 1 LDC 2 CHECK LDLP 1 WSUB IN DONE");
        Calls.code("INT x:\nkeys ? x", "LDC 0 LDC 1 LDLP 1 FILL LDLP 1 LDC 13 IN DONE");
        Calls.code("screen ! 7", "LDC 7 LDC 12 OUT DONE");
        Calls.code("SEQ\n  INT x:\n  x := 1\n  INT y, z:\n  z := 2",
            "LDC 0 LDC 1 LDLP 1 FILL LDC 1 STL 1 LDC 0 LDC 1 LDLP 1 FILL LDC 0 LDC 1 LDLP 2 FILL LDC 2 STL 2 DONE");
    }

    private static void constructs() {
        Calls.code("SEQ i = 2 FOR 3\n  screen ! i", "LDC 2 STL 1 LDC 3 STL 2 LDL 2 LDC 0 GT CJ 13 LDL 1 LDC 12 OUT "
            + "LDL 1 ADC 1 STL 1 LDL 2 ADC -1 STL 2 J -17 DONE");
        Calls.code("INT x:\nSEQ i = x + (x + 1) FOR 2\n  SKIP", "LDC 0 LDC 1 LDLP 1 FILL LDL 1 LDC 1 ADD STL 4 LDL 1 LDL 4 ADD "
            + "STL 2 LDC 2 STL 3 LDL 3 LDC 0 GT CJ 9 LDL 2 ADC 1 STL 2 LDL 3 ADC -1 STL 3 J -13 DONE");
        Calls.code("INT x:\nSEQ i = 0 FOR x - (x + 1)\n  SKIP", "LDC 0 LDC 1 LDLP 1 FILL LDC 0 STL 2 LDL 1 LDC 1 ADD STL 4 LDL 1 LDL 4 SUB "
            + "STL 3 LDL 3 LDC 0 GT CJ 9 LDL 2 ADC 1 STL 2 LDL 3 ADC -1 STL 3 J -13 DONE");
        Calls.code("INT x:\nIF\n  x\n    SKIP\n  TRUE\n    x := 1",
            "LDC 0 LDC 1 LDLP 1 FILL LDL 1 CJ 1 J 7 LDC 1 CJ 3 LDC 1 STL 1 J 2 FAIL DONE");
        Calls.code("INT x:\nWHILE x\n  x := 0", "LDC 0 LDC 1 LDLP 1 FILL LDL 1 CJ 4 LDC 0 STL 1 J -6 DONE");
        // a way that needs two bytes makes the loop longer
        LinkedCores x = Calls.good("INT x:\nWHILE x\n  SEQ\n" + "    x := 0\n".repeat(8));
        Calls.due("CJ and J", Calls.listing(x, 0, 4), "LDL 1 CJ 18 " + "LDC 0 STL 1 ".repeat(8) + "J -21 DONE");
        x = Calls.good("INT x:\nWHILE x\n  SEQ\n" + "    x := 0\n".repeat(6));
        Calls.due("CJ of one byte", Calls.listing(x, 0, 4), "LDL 1 CJ 14 " + "LDC 0 STL 1 ".repeat(6) + "J -16 DONE");
    }

    private static void calls() {
        LinkedCores x = Calls.good("PROC p(VAL INT v, INT r, [3]INT t, CHAN c)\n  SEQ\n    r := v + r\n    t[r] := t[0]\n"
            + "    c ! r\n    c ? r\n:\n[3]INT a, b:\nCHAN c:\nINT x:\np(x + 1, a[1], b, c)\n");
        // size 5: word 0 and four parameters
        String proc = "AJW -8 LDL 1 LDL 2 LDNL 0 ADD LDL 2 STNL 0 "
            + "LDC 0 LDC 3 CHECK LDL 3 WSUB LDNL 0 LDL 2 LDNL 0 LDC 3 CHECK LDL 3 WSUB STNL 0 "
            + "LDL 2 LDNL 0 LDL 4 OUT LDL 2 LDL 4 IN AJW 8 RET";
        Calls.due("a PROC", Calls.listing(x, 0, 0).substring(0, proc.length()), proc);
        String main = Calls.listing(x, 0, x.processor(0, 2));
        String want = "LDC 0 LDC 3 LDLP 1 FILL LDC 0 LDC 3 LDLP 4 FILL LDC -1 LDC 1 LDLP 7 FILL LDC 0 LDC 1 LDLP 8 FILL "
            + "LDL 8 LDC 1 ADD STL -11 LDC 1 LDC 3 CHECK LDLP 1 WSUB STL -10 LDLP 4 STL -9 LDLP 7 STL -8 CALL ";
        Calls.due("its CALL", main.substring(0, want.length()), want);
        int behind = x.processor(0, 0) - 2;
        Calls.due("the way back", main.substring(want.length()), -behind + " DONE");
        Calls.due("words", x.processor(0, 1), 9 + 7 + 5 + 3);
        x = Calls.good("PROC p([2]INT t, INT r, CHAN c)\n  SKIP\n:\nPROC q([2]INT t, INT r, CHAN c)\n  p(t, r, c)\n:\nSKIP");
        Calls.due("parameters as arguments", Calls.listing(x, 0, 5),
            "AJW -7 LDL 1 STL -10 LDL 2 STL -9 LDL 3 STL -8 CALL -18 AJW 7 RET DONE");
    }

    private static void par() {
        // size 5 (x, three words); branches of size 1: below by 4 and 8
        Calls.code("INT x:\nPAR\n  x := 1\n  SKIP", "LDC 0 LDC 1 LDLP 1 FILL "
            + "LDC 26 LDPI STL 2 LDC 2 STL 3 LDSELF STL 4 "
            + "LDC 10 LDPI LDLP -4 STARTP LDC 10 LDPI LDLP -8 STARTP STOPP "
            + "LDC 1 STL 5 LDLP 6 ENDP LDLP 10 ENDP DONE");
        LinkedCores x = Calls.good("PRI PAR\n  PAR i = 4 FOR 2\n    INT y:\n    y := i\n  SKIP");
        String all = Calls.listing(x, 0, 0);
        // outer frame 4 words; first branch: size 4, depth 3 + 2 * (2 + 3), so its W is 7 below, the other's 3 + 20 + 1
        Calls.due("STARTH", all.contains("LDLP -7 STARTH") ? 1 : 0, 1);
        Calls.due("STARTP", all.contains("LDLP -24 STARTP") ? 1 : 0, 1);
        Calls.due("inner ones", all.contains("LDLP -5 STARTP") && all.contains("LDLP -10 STARTP") ? 1 : 0, 1);
        Calls.due("numbers", all.contains("LDC 4 STL 1 LDLP 6 ENDP") && all.contains("LDC 5 STL 1 LDLP 11 ENDP") ? 1 : 0, 1);
        Calls.due("words", x.processor(0, 1), 4 + 3 + 20 + 4 + 3);
        Calls.due("first W", x.processor(0, 3), 16 + 3 + 20 + 4 + 3);
    }

    private static void alt() {
        Calls.code("CHAN c:\nINT x:\nALT\n  c ? x\n    SKIP\n  x > 0 & keys ? x\n    STOP\n  x & SKIP\n    x := 2",
            "LDC -1 LDC 1 LDLP 1 FILL LDC 0 LDC 1 LDLP 2 FILL "
            + "LDC 1 STL 3 LDLP 1 STL 4 LDL 2 LDC 0 GT STL 5 LDC 13 STL 6 LDL 2 STL 7 "
            + "ALT LDL 3 LDL 4 ENBC LDL 5 LDL 6 ENBC LDL 7 ENBS ALTWT "
            + "LDC 0 LDL 3 LDL 4 DISC LDC 5 LDL 5 LDL 6 DISC LDC 12 LDL 7 DISS ALTEND "
            + "LDLP 2 LDL 4 IN J 10 LDLP 2 LDL 6 IN STOPP J 3 LDC 2 STL 2 J 0 DONE");
    }

    private static void placed() {
        LinkedCores x = Calls.good("PROC p()\n  SKIP\n:\nLINK l FROM 4 TO 1:\nLINK m FROM 1 TO 4:\nPLACED PAR\n"
            + "  PROCESSOR 4\n    l ! 5\n  PROCESSOR 1\n    INT x:\n    m ! x\n");
        Calls.due("all have the PROCs", Calls.listing(x, 4, 0), "AJW -4 AJW 4 RET LDC 5 LDC 0 OUT DONE");
        Calls.due("also this one", Calls.listing(x, 1, 0), "AJW -4 AJW 4 RET LDC 0 LDC 1 LDLP 1 FILL LDL 1 LDC 1 OUT DONE");
        Calls.due("where it begins", x.processor(4, 2), 5);
        Calls.due("where it begins", x.processor(1, 2), 5);
        Calls.due("bytes", x.processor(4, 0), 11);
        Calls.due("words", x.processor(4, 1), 4);
        Calls.due("words", x.processor(1, 1), 5);
        Calls.due("first W", x.processor(1, 3), 19);
    }

    private static void need(String text, int words) {
        LinkedCores x = Calls.good(text);
        Calls.due("words of\n" + text, x.processor(0, 1), words);
    }

    private static void workspaces() {
        need("SKIP", 4);
        need("INT x, y:\nSKIP", 6);
        need("SEQ\n  INT x:\n  SKIP\n  [5]INT y:\n  SKIP", 9);
        need("SEQ i = 0 FOR 1\n  SEQ i = 0 FOR 1\n    SKIP", 8);
        need("SEQ\n  SEQ i = 0 FOR 1\n    SKIP\n  SEQ i = 0 FOR 1\n    SKIP", 6);
        need("ALT\n  TRUE & SKIP\n    SKIP\n  FALSE & SKIP\n    INT x:\n    SKIP", 9);
        need("INT x:\nALT\n  x > (x + 1) & SKIP\n    SKIP", 8);
        need("INT x:\nx := x + (x + (x + (x * 2)))", 6);
        need("INT x:\nx := ((x + (x * 2)) + (x * 2)) + (x * 2)", 8);
        need("PAR\n  SKIP\n  SKIP", 4 + 3 + 4 + 4 + 3);
        need("PAR i = 0 FOR 8\n  INT x:\n  SKIP", 4 + 3 + 8 * 5 + 3);
        need("PROC p(INT a)\n  SKIP\n:\nPROC q()\n  INT x:\n  p(x)\n:\nSEQ\n  q()\n  PAR\n    SKIP\n    SKIP", 4 + 7 + 2 + 7 + 2 + 3);
    }

    private static void faces() {
        LinkedCores x = Calls.good("PLACED PAR\n  PROCESSOR 2\n    INT x:\n    x := 300");
        Calls.due("no such part", Calls.of(() -> x.processor(2, 4)), Calls.ARGUMENT);
        Calls.due("no such part", Calls.of(() -> x.processor(2, -1)), Calls.ARGUMENT);
        for (int p : new int[] {-1, 0, 1, 3, 4, 5, 6, 1000}) {
            Calls.due("no processor", Calls.of(() -> x.processor(p, 9)), Calls.ELEMENT);
            Calls.due("no processor", Calls.of(() -> x.code(p, -1)), Calls.ELEMENT);
            Calls.due("no processor", Calls.of(() -> x.instruction(p, -1, 9)), Calls.ELEMENT);
            Calls.due("no processor", Calls.of(() -> x.run(p, -1)), Calls.ELEMENT);
            Calls.due("no processor", Calls.of(() -> x.core(p, 99)), Calls.ELEMENT);
            Calls.due("no processor", Calls.of(() -> x.ready(p, -1)), Calls.ELEMENT);
            Calls.due("no processor", Calls.of(() -> x.word(p, -1)), Calls.ELEMENT);
        }
        int n = x.processor(2, 0);
        Calls.due("no byte", Calls.of(() -> x.code(2, n)), Calls.INDEX);
        Calls.due("no byte", Calls.of(() -> x.code(2, -1)), Calls.INDEX);
        Calls.due("no byte", Calls.of(() -> x.instruction(2, n, 9)), Calls.INDEX);
        Calls.due("no byte", Calls.of(() -> x.instruction(2, -1, 0)), Calls.INDEX);
        Calls.due("no such part", Calls.of(() -> x.instruction(2, 0, 3)), Calls.ARGUMENT);
        Calls.due("no such part", Calls.of(() -> x.instruction(2, 0, -1)), Calls.ARGUMENT);
        // LDC 300 is 21 22 4c; from its second byte on it is LDC 44
        Calls.due("with prefixes", x.instruction(2, 4, 1) + " " + x.instruction(2, 4, 2), "300 3");
        Calls.due("from a later one on", x.instruction(2, 5, 1) + " " + x.instruction(2, 5, 2), "44 2");
        Calls.due("the last byte", x.instruction(2, n - 1, 0) + " " + x.instruction(2, n - 1, 1), "15 15");
    }

    private static String state(LinkedCores x, int l) {
        StringBuilder all = new StringBuilder();
        for (int what = 0; what < 6; what++) {
            all.append(what == 0 ? "" : " ").append(x.link(l, what));
        }
        return all.toString();
    }

    private static void links() {
        LinkedCores x = Calls.good("LINK a FROM 3 TO 2:\nLINK b FROM 2 TO 3:\nPLACED PAR\n  PROCESSOR 2\n    INT x:\n    a ? x\n"
            + "  PROCESSOR 3\n    a ! 7");
        Calls.due("no link", Calls.of(() -> x.link(-1, 9)), Calls.INDEX);
        Calls.due("no link", Calls.of(() -> x.link(2, 0)), Calls.INDEX);
        Calls.due("no such part", Calls.of(() -> x.link(1, 6)), Calls.ARGUMENT);
        Calls.due("no such part", Calls.of(() -> x.link(0, -1)), Calls.ARGUMENT);
        Calls.due("empty", state(x, 0), "3 2 0 0 0 0");
        Calls.due("empty", state(x, 1), "2 3 0 0 0 0");
        x.run(3, 99);
        Calls.due("it sends", state(x, 0), "3 2 0 0 1 7");
        String[] due = {"1 1 1 7", "1 0 1 7", "2 1 1 7", "2 0 1 7", "3 1 1 7", "3 0 1 7", "4 0 1 7", "4 0 1 7"};
        for (int k = 0; k < due.length; k++) {
            Calls.due("something went", x.beat(1), k < 7 ? 1 : 0);
            Calls.due("beat " + k, state(x, 0), "3 2 " + due[k]);
        }
        x.run(2, 99);
        Calls.due("taken", state(x, 0), "3 2 0 1 1 7");
        Calls.due("the last one", x.beat(1), 1);
        Calls.due("empty again", state(x, 0), "3 2 0 0 0 0");
        Calls.due("the sender goes on", x.run(3, 99), 2);
        Calls.due("all are done", x.outcome(), 1);
    }
}
