/** Promises 1 to 5 and Terms 1, lines and tokens: each bound from both sides. */
public final class TextBoundsTest {
    private static final int FORM = 1;
    private static final String X = "INT x, y:\n";

    /** A text that needs the keyword at the place where two signs % stand around it. */
    private static final String[] KEYWORDS = {
        "%SEQ%\n  SKIP", "%PAR%\n  SKIP\n  SKIP", "%PRI% PAR\n  SKIP\n  SKIP", "%ALT%\n  TRUE & SKIP\n    SKIP",
        "%IF%\n  TRUE\n    SKIP", "%WHILE% FALSE\n  SKIP", "%SKIP%", "%STOP%", "%INT% x:\nSKIP", "%CHAN% c:\nSKIP",
        "PROC p(%VAL% INT x)\n  SKIP\n:\nSKIP", "%PROC% p()\n  SKIP\n:\nSKIP", "SEQ i = 0 %FOR% 3\n  SKIP",
        "screen ! %TRUE%", "screen ! %FALSE%", "screen ! %NOT% 1", "screen ! 1 %AND% 2", "screen ! 1 %OR% 2",
        "%PLACED% PAR\n  PROCESSOR 0\n    SKIP", "PLACED PAR\n  %PROCESSOR% 0\n    SKIP",
        "%LINK% l FROM 0 TO 1:\nPLACED PAR\n  PROCESSOR 0\n    SKIP", "LINK l %FROM% 0 TO 1:\nPLACED PAR\n  PROCESSOR 0\n    SKIP",
        "LINK l FROM 0 %TO% 1:\nPLACED PAR\n  PROCESSOR 0\n    SKIP"};

    public static void main(String[] args) {
        newObject();
        signs();
        lanes();
        full();
        ends();
        compiles();
        faults();
        calls();
        levels();
        linesThatDontCount();
        comments();
        names();
        keywords();
        numbers();
        longest();
        noTokens();
        ownPlaces();
        Calls.close();
    }

    private static void fine(String text) {
        Calls.good(text);
    }

    private static void form(String text, int line, int place) {
        Calls.fault(text, FORM, line, place);
    }

    private static String told(LinkedCores x) {
        return x.fault(0) + " " + x.fault(1) + " " + x.fault(2);
    }

    // promises 1 to 5

    private static void newObject() {
        Calls.due("no fault", told(new LinkedCores()), "0 -1 -1");
        LinkedCores x = new LinkedCores();
        Calls.refused("no program", Calls.STATE, x::outcome);
        Calls.refused("no sign to keep", Calls.ARGUMENT, () -> shorten(x, 1));
        Calls.due("none to keep", shorten(x, 0), 0);
        Calls.due("an empty text has a fault", x.compile(), -1);
        Calls.due("at its end", told(x), "1 -1 -1");
        Calls.due("none", LinkedCores.NONE, -1);
    }

    private static int shorten(LinkedCores x, int n) {
        x.end(n);
        return 0;
    }

    /** Every byte: 0 is left out, 10 and 32 to 126 are signs, and no other one is. */
    private static void signs() {
        for (int k = 0; k < 4; k++) {
            LinkedCores x = new LinkedCores();
            int there = 0;
            for (int b = 0; b < 256; b++) {
                int signs = b << 8 * k;
                boolean sign = b == 10 || b >= 32 && b <= 126;
                there += sign ? 1 : 0;
                Calls.due("byte " + b + " at " + k, Calls.of(() -> x.put(signs)), sign || b == 0 ? there : Calls.ARGUMENT);
            }
        }
    }

    /** The lowest byte first; and of a put that is refused no sign comes in. */
    private static void lanes() {
        LinkedCores x = new LinkedCores();
        Calls.due("four", x.put('S' | 'K' << 8 | 'I' << 16 | 'P' << 24), 4);
        Calls.refused("the fourth one is wrong", Calls.ARGUMENT, () -> x.put(' ' | ' ' << 8 | ';' << 16 | 200 << 24));
        Calls.refused("the first one is wrong", Calls.ARGUMENT, () -> x.put(1 | ';' << 8));
        Calls.due("still four", x.put(0), 4);
        Calls.due("zeros between", x.put('-' << 8 | '-' << 24), 6);
        Calls.due("SKIP and a comment", x.compile() + " " + told(x), "1 0 -1 -1");
    }

    /**
     * No 512 calls bring 3000 signs in (they bring 2048), so that these answers are free by the document's own words;
     * the class keeps to the bound all the same.
     */
    private static void full() {
        LinkedCores x = new LinkedCores();
        for (int k = 0; k < 749; k++) {
            x.put(k == 0 ? 'S' | 'K' << 8 | 'I' << 16 | 'P' << 24 : 0x20202020);
        }
        Calls.due("2996 and one", x.put(' '), 2997);
        Calls.refused("3001", Calls.UNSUPPORTED, () -> x.put(0x20202020));
        Calls.refused("a wrong sign is named first", Calls.ARGUMENT, () -> x.put(0x20202007));
        Calls.due("none of them came in", x.put(0), 2997);
        Calls.due("3000", x.put(0x202020), 3000);
        Calls.refused("one more", Calls.UNSUPPORTED, () -> x.put(' '));
        Calls.refused("one more, in the last byte", Calls.UNSUPPORTED, () -> x.put(' ' << 24));
        Calls.refused("a wrong sign", Calls.ARGUMENT, () -> x.put(9));
        Calls.due("none more", x.put(0), 3000);
        shorten(x, 3000);
        Calls.due("as many as before", x.put(0), 3000);
        Calls.due("it is read to its end", x.compile(), 1);
        Calls.due("there is room again", x.put(0x20202020), 4);
    }

    private static void ends() {
        LinkedCores x = new LinkedCores();
        Calls.write(x, "SKIP ;");
        for (int n : new int[] {-1, 7, Integer.MIN_VALUE, Integer.MAX_VALUE}) {
            Calls.refused("end " + n, Calls.ARGUMENT, () -> shorten(x, n));
        }
        Calls.due("unchanged", x.put(0), 6);
        Calls.due("all of it", shorten(x, 6) + x.put(0), 6);
        Calls.due("all but one", shorten(x, 5) + x.put(0), 5);
        Calls.refused("what was cut off is gone", Calls.ARGUMENT, () -> shorten(x, 6));
        Calls.due("SKIP and a blank", x.compile(), 1);
        Calls.write(x, "STOP");
        shorten(x, 0);
        Calls.due("nothing", x.put(0) + " " + x.compile(), "0 -1");
        Calls.write(x, "STOP");
        shorten(x, 2);
        Calls.write(x, "OP");
        Calls.due("what comes behind takes the place", x.compile() + " " + Calls.listing(x, 0, 0), "1 STOPP DONE");
    }

    /** The text is empty then, with a fault and without; and the program before is gone. */
    private static void compiles() {
        LinkedCores x = new LinkedCores();
        StringBuilder text = new StringBuilder("PLACED PAR\n");
        for (int p = 5; p >= 0; p--) {
            text.append("  PROCESSOR ").append(p).append("\n    SKIP\n");
            Calls.write(x, text.toString());
            Calls.due("processors", x.compile(), 6 - p);
            Calls.due("the text is empty", x.put(0), 0);
            int q = p - 1;
            Calls.refused("no processor " + q, Calls.ELEMENT, () -> x.core(q, 6));
        }
        x.rounds(9);
        x.input(3);
        Calls.write(x, "screen ! 1");
        Calls.due("one processor", x.compile(), 1);
        Calls.due("at its beginning", x.about(5) + " " + x.core(0, 11) + " " + x.input(4), "0 0 1");
        Calls.refused("the others are gone", Calls.ELEMENT, () -> x.core(1, 6));
        Calls.write(x, "screen ! x");
        Calls.due("a fault", x.compile() + " " + told(x) + " " + x.put(0), "-1 3 0 9 0");
        Calls.refused("no program", Calls.STATE, x::outcome);
        Calls.write(x, "screen ! 2");
        Calls.due("a program again", x.compile() + " " + told(x), "1 0 -1 -1");
    }

    /** Of the latest compile(), whatever is done behind it. */
    private static void faults() {
        LinkedCores x = new LinkedCores();
        for (int what : new int[] {Integer.MIN_VALUE, -1, 3, Integer.MAX_VALUE}) {
            Calls.refused("fault " + what, Calls.ARGUMENT, () -> x.fault(what));
        }
        Calls.write(x, "SEQ\n  SKIP SKIP");
        x.compile();
        Calls.due("1", told(x), "1 1 7");
        Calls.write(x, "SKIP");
        shorten(x, 4);
        Calls.due("it stays", told(x), "1 1 7");
        x.compile();
        Calls.due("there was none", told(x), "0 -1 -1");
        Calls.write(x, "INT x:\nPAR\n  x := 1\n  x := 2");
        x.compile();
        Calls.due("5 has no place", told(x), "5 1 -1");
    }

    /** "An object is used for at most 512 calls": the 512th answers as the first. */
    private static void calls() {
        LinkedCores x = new LinkedCores();
        for (int k = 1; k < 512; k++) {
            x.put(k == 1 ? 'S' | 'T' << 8 | 'O' << 16 | 'P' << 24 : k % 2 == 0 ? 0x0a202020 : 0x202d2d20);
        }
        Calls.due("a text of 511 calls", x.compile(), 1);
        LinkedCores y = new LinkedCores();
        for (int k = 0; k < 256; k++) {
            y.put('S' | 'K' << 8 | 'I' << 16 | 'P' << 24);
            Calls.due("program " + k, y.compile(), 1);
        }
        LinkedCores z = Calls.good("WHILE TRUE\n  SKIP");
        for (int k = 11; k < 512; k++) {
            Calls.due("run", z.run(0, 5000), 5000);
        }
        LinkedCores w = new LinkedCores();
        Calls.write(w, "INT n:\nWHILE TRUE\n  SEQ\n    n := n + 1\n    screen ! n");
        w.compile();
        for (int k = 16; k < 511; k++) {
            w.rounds(5000);
        }
        Calls.due("outputs", w.about(2) > 100000 ? w.output(999) : 0, 1000);
    }

    // lines

    /** SEQs at levels 0 and on, as many as there are told. */
    private static String nest(int levels) {
        StringBuilder all = new StringBuilder();
        for (int k = 0; k < levels; k++) {
            all.append("  ".repeat(k)).append("SEQ\n");
        }
        return all.toString();
    }

    private static void levels() {
        for (int k = 0; k <= 15; k++) {
            fine(nest(k) + "  ".repeat(k) + "SKIP");
            form(nest(k) + "  ".repeat(k) + " SKIP", k, 2 * k + 1);
            form(nest(k) + "  ".repeat(k) + "  SKIP", k, 2 * k + 2);
        }
        form(nest(16) + "  ".repeat(16) + "SKIP", 16, 32);
        form(nest(16) + "  ".repeat(16) + "nil := 1", 16, 32);
        form(nest(15) + "  ".repeat(15) + "IF\n" + "  ".repeat(16) + "TRUE\n", 16, 32);
        form(nest(14) + "  ".repeat(14) + "IF\n" + "  ".repeat(15) + "TRUE\n" + "  ".repeat(16) + "SKIP", 16, 32);
        fine(nest(13) + "  ".repeat(13) + "IF\n" + "  ".repeat(14) + "TRUE\n" + "  ".repeat(15) + "SKIP");
        form(nest(14) + "  ".repeat(14) + "ALT\n" + "  ".repeat(15) + "TRUE & SKIP\n" + "  ".repeat(16) + "SKIP", 16, 32);
        fine(nest(13) + "  ".repeat(13) + "ALT\n" + "  ".repeat(14) + "TRUE & SKIP\n" + "  ".repeat(15) + "SKIP");
        form(nest(15) + "  ".repeat(15) + "WHILE TRUE\n" + "  ".repeat(16) + "SKIP", 16, 32);
        form(nest(15) + "  ".repeat(15) + "WHILE TRUE\n", -1, -1);
        form(nest(2) + " ".repeat(257) + "SKIP", 2, 257);
        form(nest(2) + " ".repeat(512) + "SKIP", 2, 512);
        form("SEQ\n" + " ".repeat(258) + "SKIP", 1, 258);
    }

    /** Lines of blanks alone, and of comments alone, at whatever level: they count as lines, not as text. */
    private static void linesThatDontCount() {
        for (String line : new String[] {"", " ", "   ", " ".repeat(33), "--", " --", "   -- SKIP", " ".repeat(33) + "--x", "-- --"}) {
            fine(line + "\nSKIP");
            fine("SKIP\n" + line);
            fine("SEQ\n" + line + "\n  SKIP\n" + line + "\n" + line + "\n  SKIP\n" + line + "\n");
            form("SEQ\n" + line + "\n   SKIP", 2, 3);
            form(line + "\n" + line + "\nSKIP\n" + line + "\nSKIP", 4, 0);
            form(line, -1, -1);
            form(line + "\n" + line + "\n", -1, -1);
        }
        fine("SKIP");
        fine("SKIP\n");
        fine("\n\n\nSKIP\n\n\n");
    }

    private static void comments() {
        fine("SKIP--");
        fine("SKIP -- SKIP ;");
        fine("SKIP---");
        form("SKIP -", 0, 5);
        form("SKIP - -", 0, 5);
        form("SKIP\n-", 1, 0);
        form("--SKIP", -1, -1);
        fine(X + "x := 1 -2");
        fine(X + "x := 1--2");
        form(X + "x := 1 - -2", 1, 9);
        form(X + "x := 1 ---2".replace("---", "- --"), 1, 9);
        form(X + "x := --2", 1, 5);
        form(X + "x :=--2", 1, 4);
        form(X + "x := -\n-2", 1, 6);
        form(X + "x := 1 -\n- 2", 1, 8);
        StringBuilder all = new StringBuilder("SKIP--");
        for (char c = 32; c <= 126; c++) {
            all.append(c);
        }
        fine(all.toString());
        // the line's end: its signs without the comment, blanks ahead of that counted
        form("SEQ i = 0", 0, 9);
        form("SEQ i = 0--", 0, 9);
        form("SEQ i = 0   -- FOR 3", 0, 12);
        form("SEQ i = 0   \n  SKIP", 0, 12);
        form("SEQ\n  SEQ i = 0 \n", 1, 12);
    }

    // tokens

    private static void names() {
        String ten = "abcdefghij";
        for (int k = 1; k <= 10; k++) {
            String name = ten.substring(0, k);
            fine("INT " + name + ":\n" + name + " := 1");
        }
        form("INT abcdefghijk:\nSKIP", 0, 4);
        form("INT x, abcdefghij.:\nSKIP", 0, 7);
        form("INT x, a123456789.:\nSKIP", 0, 7);
        form("INT x, a1234567890:\nSKIP", 0, 7);
        form("PROC abcdefghijk()\n", 0, 5);
        form("LINK abcdefghijk FROM", 0, 5);
        form("SEQ abcdefghijk = 0 FOR 1", 0, 4);
        form("PROC p(INT abcdefghijk)", 0, 11);
        form(X + "x := abcdefghijk", 1, 5);
        form("abcdefghijk := 1", 0, 0);
        fine("INT a.b, a.., a1, z9.9z, a.1:\na.. := z9.9z + a.1");
        fine("INT abcdefghij, abcdefghi, bcdefghij:\nSEQ\n  abcdefghij := 1\n  screen ! abcdefghi + bcdefghij");
        Calls.finish("INT abcdefghia, abcdefghib, aaaaaaaaaa, a:\nSEQ\n  abcdefghia := 1\n  abcdefghib := 2\n  aaaaaaaaaa := 4\n  a := 8\n"
            + "  screen ! abcdefghia\n  screen ! abcdefghib\n  screen ! aaaaaaaaaa\n  screen ! a", 1, "1 2 4 8");
        for (char c : "abcdefghijklmnopqrstuvwxyz".toCharArray()) {
            fine("INT " + c + ":\n" + c + " := 1");
        }
        for (char c : "abcdefghijklmnopqrstuvwxyz0123456789.".toCharArray()) {
            fine("INT q" + c + ", q:\nSEQ\n  q" + c + " := 1\n  q := 2");
        }
        form("INT .a:\nSKIP", 0, 4);
        form("INT 1a:\nSKIP", 0, 4);
        form("INT Aa:\nSKIP", 0, 4);
        form("INT aB:\nSKIP", 0, 5);
        form("INT a_b:\nSKIP", 0, 5);
        fine("INTx:\nSKIP");
        // names run on as long as they can: a keyword doesn't end them, nor they a keyword
        form(X + "x := yAND", 1, 9);
        fine(X + "x := yANDx");
        fine(X + "x := 1AND1");
    }

    private static void keywords() {
        for (String text : KEYWORDS) {
            int first = text.indexOf('%');
            int last = text.lastIndexOf('%') - 1;
            String plain = text.replace("%", "");
            int line = (int) plain.substring(0, first).chars().filter(c -> c == '\n').count();
            int place = first - plain.lastIndexOf('\n', first) - 1;
            fine(plain);
            form(plain.substring(0, last - 1) + plain.substring(last), line, place);
            form(plain.substring(0, last) + "S" + plain.substring(last), line, place);
            form(plain.substring(0, first) + "X" + plain.substring(first), line, place);
        }
        for (char c = 'A'; c <= 'Z'; c++) {
            form("SKIP" + c, 0, 0);
            form("SK" + c + "IP", 0, 0);
            form("" + c, 0, 0);
        }
        form(X + "x := T", 1, 5);
        form(X + "x := TRUEFALSE", 1, 5);
        form("SKIPSTOP", 0, 0);
        fine("PRIPAR\n  SKIP\n  SKIP".replace("PRIPAR", "PRI PAR"));
        form("PRIPAR\n  SKIP\n  SKIP", 0, 0);
    }

    private static void numbers() {
        Calls.finish("screen ! 2147483647", 1, "2147483647");
        form("screen ! 2147483648", 0, 9);
        Calls.finish("screen ! - 2147483647", 1, "-2147483647");
        form("screen ! - 2147483648", 0, 11);
        Calls.finish("screen ! 0000000000", 1, "0");
        Calls.finish("screen ! 0000000012", 1, "12");
        form("screen ! 00000000000", 0, 9);
        form("screen ! 00000000012", 0, 9);
        form("screen ! 9999999999", 0, 9);
        form("screen ! 4294967296", 0, 9);
        form("screen ! 4294967297", 0, 9);
        form("screen ! 10000000000", 0, 9);
        form("screen ! 18446744073709551617", 0, 9);
        form("[00000000064]INT a:\nSKIP", 0, 1);
        fine("[0000000064]INT a:\nSKIP");
        form("PLACED PAR\n  PROCESSOR 4294967296\n    SKIP", 1, 12);
        form("screen ! 1 2", 0, 11);
        form("screen ! 1a", 0, 10);
    }

    /** The longest sign that is there is read. */
    private static void longest() {
        for (String sign : new String[] {"+", "-", "*", "/", "\\", "<<", ">>", "/\\", "\\/", "=", "<>", "<", ">", "<=", ">="}) {
            fine(X + "x:=y" + sign + "1");
            fine(X + "x := y  " + sign + "  1");
        }
        form(X + "x := y< <1", 1, 8);
        form(X + "x := y> =1", 1, 8);
        form(X + "x := y/ \\1", 1, 8);
        form(X + "x := y<<<1", 1, 8);
        form(X + "x := y<<=1", 1, 8);
        form(X + "x := y<>=1", 1, 8);
        form(X + "x := y>>>1", 1, 8);
        form(X + "x := y><1", 1, 7);
        form(X + "x := y=<1", 1, 7);
        form(X + "x := y=>1", 1, 7);
        form(X + "x := y/\\/1", 1, 8);
        form(X + "x := y\\/\\1", 1, 8);
        form(X + "x := y//\\1", 1, 7);
        form(X + "x :== 1", 1, 4);
        form(X + "x : = 1", 1, 2);
        form(X + "x = 1", 1, 2);
        form("INT x:=\nSKIP", 0, 5);
        fine("INT x :\nSKIP");
        fine("CHAN c:\nPAR\n  c!1\n  INT x:\n  c?x");
        fine("[ 3 ] INT a , b :\na [ ( 1 ) ] := ( b [ 2 ] )");
        fine("ALT\n  TRUE&SKIP\n    SKIP");
    }

    private static void noTokens() {
        String none = "\"#$%';@^_`{|}~.";
        for (char c : none.toCharArray()) {
            form(c + "SKIP", 0, 0);
            form("SKIP" + c, 0, 4);
            form("SKIP   " + c, 0, 7);
            form(X + "x := " + c, 1, 5);
            form(X + "x := 1" + c + "2", 1, 6);
        }
    }

    /** What is wrong with a token is found when all ahead of it has been found right. */
    private static void ownPlaces() {
        Calls.fault("nil := 99999999999", 3, 0, 0);
        Calls.fault("SEQ\n  nil := 1\n  ;", 3, 1, 2);
        form("SEQ\n  ; nil\n  x := 1", 1, 2);
        form(X + "x := ; nil", 1, 5);
        Calls.fault(X + "x := nil ;", 3, 1, 5);
        Calls.fault("CHAN c:\nINT x:\nx := c ;", 4, 2, 5);
    }
}
