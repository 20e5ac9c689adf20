/** Terms 3 and 4 and promises 6 to 8: words of frames, prefixes and ways, from both sides of each length. */
public final class CodeBoundsTest {
    private static final int MAX = 2147483647;

    public static void main(String[] args) {
        least();
        numbers();
        negative();
        wordsOfFrames();
        heads();
        branches();
        loops();
        counted();
        choices();
        logic();
        calls();
        forks();
        alternatives();
        parts();
        sizes();
        outer();
        Calls.close();
    }

    /** How many bytes an instruction needs: four bits each; below 0 those of what ~ leaves, and two at least. */
    private static int length(int operand) {
        int bits = operand < 0 ? ~operand : operand;
        int bytes = operand < 0 ? 2 : 1;
        while (bytes < 8 && bits >> 4 * bytes != 0) {
            bytes++;
        }
        return bytes;
    }

    /** Byte by byte as the document tells prefixes: function, operand, bytes. */
    private static String read(LinkedCores x, int p, int from) {
        int o = 0;
        for (int k = from; k < from + 9; k++) {
            int function = x.code(p, k) / 16;
            o |= x.code(p, k) % 16;
            if (function == 2) {
                o *= 16;
            } else if (function == 6) {
                o = ~o * 16;
            } else {
                return function + " " + o + " " + (k - from + 1);
            }
        }
        return "no end";
    }

    private static String told(LinkedCores x, int p, int at) {
        return x.instruction(p, at, 0) + " " + x.instruction(p, at, 1) + " " + x.instruction(p, at, 2);
    }

    /** All instructions are as their bytes say, and none is longer than it must be. */
    private static void shortest(LinkedCores x, int p) {
        int bytes = x.processor(p, 0);
        for (int k = 0; k < bytes && k < 60; k += Math.max(1, x.instruction(p, k, 2))) {
            Calls.due("byte " + k, told(x, p, k), read(x, p, k));
            Calls.due("bytes at " + k, x.instruction(p, k, 2), length(x.instruction(p, k, 1)));
        }
    }

    /** The least program. */
    private static void least() {
        LinkedCores x = Calls.good("SKIP");
        Calls.due("processor", x.processor(0, 0) + " " + x.processor(0, 1) + " " + x.processor(0, 2) + " " + x.processor(0, 3), "2 4 0 19");
        Calls.due("bytes", x.code(0, 0) + " " + x.code(0, 1), "33 255");
        Calls.due("DONE", told(x, 0, 0), "15 31 2");
        Calls.due("from its second byte on", told(x, 0, 1), "15 15 1");
    }

    private static void numbers() {
        for (int bits = 0; bits < 31; bits++) {
            for (int n : new int[] {(1 << bits) - 1, 1 << bits, (1 << bits) + 1}) {
                LinkedCores x = Calls.good("screen ! " + n);
                Calls.due("LDC " + n, told(x, 0, 0), "4 " + n + " " + length(n));
                Calls.due("its bytes", read(x, 0, 0), "4 " + n + " " + length(n));
                for (int k = 0; k < length(n) - 1; k++) {
                    Calls.due("PFIX alone", x.code(0, k) / 16, 2);
                }
            }
        }
        LinkedCores x = Calls.good("screen ! 2147483647");
        StringBuilder all = new StringBuilder();
        for (int k = 0; k < 8; k++) {
            all.append(Integer.toHexString(x.code(0, k))).append(' ');
        }
        Calls.due("the greatest", all.toString(), "27 2f 2f 2f 2f 2f 2f 4f ");
        Calls.due("eight bytes", told(x, 0, 0), "4 2147483647 8");
        Calls.due("from the third on", told(x, 0, 2), "4 16777215 6");
    }

    /** Below 0: the numbers of a PAR's index that wraps. */
    private static void negative() {
        String text = "PAR i = 2147483647 FOR 2\n  SEQ\n    INT x:\n    x := i";
        String all = Calls.listing(Calls.good(text), 0, 0);
        Calls.due("the greatest", all.contains("LDC 2147483647 STL 1 LDLP") ? 1 : 0, 1);
        Calls.due("and then the least", all.contains("LDC -2147483648 STL 1 LDLP") ? 1 : 0, 1);
        LinkedCores x = Calls.good(text);
        int[] bytes = new int[x.processor(0, 0)];
        for (int k = 0; k < bytes.length; k++) {
            bytes[k] = x.code(0, k);
        }
        int found = -1;
        for (int k = 0; k + 7 < bytes.length && found < 0; k++) {
            found = bytes[k] == 0x27 && bytes[k + 6] == 0x6f && bytes[k + 7] == 0x40 ? k : -1;
        }
        Calls.due("PFIXes, one NFIX, LDC", found >= 0 ? told(x, 0, found) : "not there", "4 -2147483648 8");
        Calls.due("what NFIX leaves", found >= 0 ? told(x, 0, found + 6) : "not there", "4 -256 2");
    }

    /** Variables at word w: LDL, STL and LDLP of it. */
    private static void wordsOfFrames() {
        for (int w : new int[] {1, 14, 15, 16, 17, 254, 255, 256, 257}) {
            StringBuilder text = new StringBuilder();
            for (int left = w - 1; left > 0; left -= 64) {
                text.append('[').append(Math.min(left, 64)).append("]INT a:\n");
            }
            LinkedCores x = Calls.good(text + "INT x:\nSEQ\n  x := x\n  keys ? x");
            int behind = x.processor(0, 0);
            int at = behind - 2 - 2 - 1 - 3 * length(w);
            Calls.due("LDL " + w, told(x, 0, at), "7 " + w + " " + length(w));
            Calls.due("STL " + w, told(x, 0, at + length(w)), "13 " + w + " " + length(w));
            Calls.due("LDLP " + w, told(x, 0, at + 2 * length(w)), "1 " + w + " " + length(w));
            Calls.due("words", x.processor(0, 1), w + 1 + 3);
        }
    }

    /** AJW of a PROC whose size is told, below 0 and above. */
    private static void heads() {
        for (int size : new int[] {1, 12, 13, 14, 252, 253, 254}) {
            StringBuilder text = new StringBuilder("PROC p()\n");
            for (int left = size - 1; left > 0; left -= 64) {
                text.append("  [").append(Math.min(left, 64)).append("]INT a:\n");
            }
            LinkedCores x = Calls.good(text + "  SKIP\n:\np()");
            int n = size + 3;
            Calls.due("AJW", told(x, 0, 0), "11 " + -n + " " + length(-n));
            int start = x.processor(0, 2);
            Calls.due("AJW back", told(x, 0, start - 2 - length(n)), "11 " + n + " " + length(n));
            Calls.due("RET", told(x, 0, start - 2), "15 19 2");
            int way = -start - 2;
            Calls.due("CALL", told(x, 0, start), "9 " + (length(way) == 2 ? way : way - 1) + " " + length(way));
            Calls.due("words", x.processor(0, 1), 1 + 7 + size + 3);
            Calls.due("first W", x.processor(0, 3), 16 + 7 + size + 3);
        }
    }

    /** LDLP below W: a first branch of so many words. */
    private static void branches() {
        for (int size : new int[] {1, 12, 13, 14, 252, 253, 254}) {
            StringBuilder text = new StringBuilder("PAR\n");
            for (int left = size - 1; left > 0; left -= 64) {
                text.append("  [").append(Math.min(left, 64)).append("]INT a:\n");
            }
            LinkedCores x = Calls.good(text + "  SKIP\n  SKIP");
            int at = 0;
            for (int k = 0; k < 20 && x.instruction(0, at, 0) != 1; k++) {
                at += x.instruction(0, at, 2);
            }
            int below = -3 - size;
            Calls.due("LDLP", told(x, 0, at), "1 " + below + " " + length(below));
            Calls.due("words", x.processor(0, 1), 4 + 3 + size + 3 + 4 + 3);
        }
    }

    private static String body(int lines, String ahead) {
        return (ahead + "x := 0\n").repeat(lines);
    }

    /** WHILE: CJ over the body and the J, J back over all, each with its own bytes. */
    private static void loops() {
        for (int lines : new int[] {0, 1, 5, 6, 7, 8, 9, 119, 120, 121, 122, 123, 124, 125, 126, 127, 128, 129}) {
            int bytes = 2 * lines;
            int c = 1;
            int j = 1;
            for (int k = 0; k < 9; k++) {
                int forward = length(bytes + j);
                int back = length(-(1 + c + bytes + j));
                c = forward;
                j = back;
            }
            LinkedCores x = Calls.good("INT x:\nWHILE x\n  SEQ\n" + body(lines, "    "));
            Calls.due("CJ", told(x, 0, 5), "10 " + (bytes + j) + " " + c);
            Calls.due("J", told(x, 0, 5 + c + bytes), "0 " + -(1 + c + bytes + j) + " " + j);
            Calls.due("bytes", x.processor(0, 0), 4 + 1 + c + bytes + j + 2);
        }
    }

    /** SEQ with an index: J goes back to where how often is looked at. */
    private static void counted() {
        for (int lines : new int[] {0, 1, 2, 3, 4, 5, 115, 116, 117, 118, 119, 120, 121, 122}) {
            int bytes = 2 * lines + 7;
            int c = 1;
            int j = 1;
            for (int k = 0; k < 9; k++) {
                int forward = length(bytes + j);
                int back = length(-(3 + c + bytes + j));
                c = forward;
                j = back;
            }
            LinkedCores x = Calls.good("INT x:\nSEQ i = 5 FOR 6\n  SEQ\n" + body(lines, "    "));
            Calls.due("CJ", told(x, 0, 11), "10 " + (bytes + j) + " " + c);
            Calls.due("J", told(x, 0, 11 + c + bytes), "0 " + -(3 + c + bytes + j) + " " + j);
            Calls.due("bytes", x.processor(0, 0), 11 + c + bytes + j + 2);
        }
    }

    /** IF: each CJ to the next line, each J to the end, over FAIL. */
    private static void choices() {
        for (int lines : new int[] {0, 1, 5, 6, 7, 8, 124, 125, 126, 127, 128, 129}) {
            int bytes = 2 * lines;
            // a second choice of 3 bytes: LDC 1, CJ over its J; J over FAIL's two bytes
            int j = length(1 + 1 + 1 + 2);
            int c = length(bytes + j);
            LinkedCores x = Calls.good("INT x:\nIF\n  x\n    SEQ\n" + body(lines, "      ") + "  TRUE\n    SKIP");
            Calls.due("CJ", told(x, 0, 5), "10 " + (bytes + j) + " " + c);
            Calls.due("J", told(x, 0, 5 + c + bytes), "0 5 1");
            LinkedCores y = Calls.good("INT x:\nIF\n  TRUE\n    SKIP\n  x\n    SEQ\n" + body(lines, "      "));
            int inner = length(bytes + 1);
            int over = 1 + inner + bytes + 1 + 2;
            Calls.due("J over the next one", told(y, 0, 6), "0 " + over + " " + length(over));
            Calls.due("CJ to the next one", told(y, 0, 5), "10 " + length(over) + " 1");
        }
    }

    /** AND and OR: CJ over the right side; nine bytes of NOT (..) more each time. */
    private static void logic() {
        for (int more : new int[] {0, 4, 5, 6, 7}) {
            String y = "(NOT ".repeat(more) + "y" + ")".repeat(more);
            LinkedCores x = Calls.good("INT x, y:\nx := x AND " + y);
            int bytes = 1 + more + 2;
            Calls.due("AND", told(x, 0, 9), "10 " + bytes + " 1");
            LinkedCores z = Calls.good("INT x, y:\nx := x OR " + y);
            Calls.due("OR", told(z, 0, 10), "10 " + (bytes - 1) + " 1");
        }
        for (int number : new int[] {0, 16, 256, MAX}) {
            // a [ ] of nine or fewer bytes and its own E make the way long
            String y = "a[a[a[" + number + "]]]";
            LinkedCores x = Calls.good("INT x:\n[3]INT a:\nx := x AND " + y);
            int bytes = length(number) + 3 * 5 + 2;
            Calls.due("AND", told(x, 0, 9), "10 " + bytes + " " + length(bytes));
        }
    }

    /** CALL of a PROC that lies so far back. */
    private static void calls() {
        for (int lines : new int[] {0, 1, 2, 3, 120, 121, 122, 123, 124, 125, 126}) {
            String text = "PROC p(INT x)\n  SEQ\n" + "    x := 0\n".repeat(lines) + ":\nINT x:\np(x)";
            LinkedCores x = Calls.good(text);
            int start = x.processor(0, 2);
            Calls.due("where it begins", start, 2 + 3 * lines + 1 + 2);
            int call = start + 4 + 1 + 2;
            int way = -(call + 2);
            way = length(way) == 2 ? way : -(call + 3);
            Calls.due("CALL", told(x, 0, call), "9 " + way + " " + length(way));
        }
    }

    /** LDC ahead of LDPI: counted from behind the LDPI. */
    private static void forks() {
        for (int lines : new int[] {0, 1, 2, 110, 111, 112, 113, 114, 115, 116, 117, 118, 119, 120}) {
            LinkedCores x = Calls.good("INT x:\nPAR\n  SEQ\n" + body(lines, "    ").replace("x := 0", "x := x") + "  SKIP");
            int from = 4;
            int behind = told(x, 0, from).startsWith("4 ") ? from + x.instruction(0, from, 2) + 1 + x.instruction(0, from, 1) : -1;
            Calls.due("behind", behind, x.processor(0, 0) - 2);
            Calls.due("DONE is there", told(x, 0, x.processor(0, 0) - 2), "15 31 2");
            // LDC m, STL, LDSELF, STL, then the first branch's LDC
            int first = from + x.instruction(0, from, 2) + 1 + 1 + 1 + 1 + 2 + 1;
            int one = first + x.instruction(0, first, 2) + 1 + x.instruction(0, first, 1);
            int second = first + x.instruction(0, first, 2) + 1 + 2 + 1;
            int other = second + x.instruction(0, second, 2) + 1 + x.instruction(0, second, 1);
            int stop = second + x.instruction(0, second, 2) + 1 + 2 + 1;
            Calls.due("STOPP", told(x, 0, stop), "15 18 2");
            Calls.due("the first branch is behind it", one, stop + 2);
            Calls.due("its end", told(x, 0, other - 2), "15 17 2");
            Calls.due("the second branch", told(x, 0, other), "1 10 1");
            Calls.due("all short", x.instruction(0, from, 2) + " " + x.instruction(0, second, 2),
                length(x.instruction(0, from, 1)) + " " + length(x.instruction(0, second, 1)));
        }
    }

    /** LDC ahead of DISC and DISS: counted from behind the ALTEND. */
    private static void alternatives() {
        for (int lines : new int[] {0, 1, 4, 5, 6, 7, 120, 121, 122, 123, 124, 125, 126, 127, 128}) {
            LinkedCores x = Calls.good("INT x:\nALT\n  TRUE & SKIP\n    SEQ\n" + body(lines, "      ") + "  keys ? x\n    SKIP");
            // FILL; LDC 1 STL; LDC 1 STL LDC 13 STL; ALT; LDL ENBS; LDL LDL ENBC; ALTWT; then LDC way
            int at = 4 + 2 + 4 + 2 + 3 + 4 + 2;
            Calls.due("the first one's way", told(x, 0, at), "4 0 1");
            int second = at + 1 + 1 + 2;
            int last = length(4 + 1);
            int way = 2 * lines + length(1 + 1 + 2 + last);
            Calls.due("the second one's way", told(x, 0, second), "4 " + way + " " + length(way));
            int end = second + length(way) + 1 + 1 + 2;
            Calls.due("ALTEND", told(x, 0, end), "15 28 2");
            Calls.due("J over the last one", told(x, 0, end + 2 + 2 * lines), "0 5 1");
            Calls.due("J of the last one", told(x, 0, x.processor(0, 0) - 3), "0 0 1");
        }
    }

    /** processor, code and instruction at their ends. */
    private static void parts() {
        LinkedCores x = Calls.good("PLACED PAR\n  PROCESSOR 5\n    CHAN c:\n    c ! 300");
        int bytes = x.processor(5, 0);
        shortest(x, 5);
        Calls.due("the first byte", x.code(5, 0), 0x60);
        Calls.due("the last byte", x.code(5, bytes - 1), 0xff);
        for (int k : new int[] {Integer.MIN_VALUE, -1, bytes, bytes + 1, MAX}) {
            Calls.refused("byte " + k, Calls.INDEX, () -> x.code(5, k));
            Calls.refused("instruction " + k, Calls.INDEX, () -> x.instruction(5, k, 0));
        }
        Calls.due("the last one", told(x, 5, bytes - 1), "15 15 1");
        Calls.due("NFIX and LDC", told(x, 5, 0), "4 -1 2");
        Calls.due("LDC alone", told(x, 5, 1), "4 15 1");
        Calls.due("0 .. 255", x.code(5, 1) == 0x4f && x.code(5, bytes - 1) == 255 ? 1 : 0, 1);
        shortest(Calls.good("PROC p(INT r)\n  WHILE r > 70000\n    r := r / 300\n:\nINT x:\nPAR\n  p(x)\n  screen ! 100000"), 0);
    }

    private static void need(String text, int words, int depth) {
        LinkedCores x = Calls.good(text);
        Calls.due("words of\n" + text, x.processor(0, 1), words);
        Calls.due("W of\n" + text, x.processor(0, 3), 16 + depth + 3);
    }

    /** Size and depth; words are given again behind the end of a process, and the most of them counts. */
    private static void sizes() {
        need("SKIP", 4, 0);
        need("INT x:\nSKIP", 5, 0);
        need("[64]INT x, y:\nSKIP", 4 + 128, 0);
        need("[1]CHAN c:\nCHAN d:\nSKIP", 6, 0);
        need("SEQ\n  [5]INT x:\n  SKIP\n  [3]INT y:\n  SKIP", 9, 0);
        need("SEQ\n  [3]INT x:\n  SKIP\n  [5]INT y:\n  SKIP", 9, 0);
        need("SEQ i = 0 FOR 1\n  INT x:\n  SKIP", 7, 0);
        need("WHILE FALSE\n  INT x:\n  SKIP", 5, 0);
        need("IF\n  TRUE\n    INT x:\n    SKIP\n  TRUE\n    [2]INT x:\n    SKIP", 6, 0);
        need("ALT\n  TRUE & SKIP\n    INT x:\n    SKIP", 7, 0);
        need("ALT\n" + "  TRUE & SKIP\n    SKIP\n".repeat(8), 20, 0);
        need("screen ! 1 + 1", 4, 0);
        need("screen ! 1 + (1)", 4, 0);
        need("screen ! 1 + (- 1)", 5, 0);
        need("screen ! 1 AND (- 1)", 4, 0);
        need("screen ! 1 AND (1 + (- 1))", 5, 0);
        need("INT x:\nscreen ! 1 + x", 5, 0);
        need("INT x:\nscreen ! 1 + (x)", 5, 0);
        need("[2]INT x:\nscreen ! 1 + x[0]", 7, 0);
        need("[2]INT x:\nscreen ! x[0] + 1", 6, 0);
        // what an E keeps, wherever the E stands
        for (String line : new String[] {"a[1 + (1 - 1)] := 1", "a[0] := 1 + (1 - 1)", "c[1 + (1 - 1)] ! 1", "c[0] ! 1 + (1 - 1)", "c[1 + (1 - 1)] ? x", "c[0] ? a[1 + (1 - 1)]",
            "WHILE 1 - (1 + 0)\n  SKIP", "IF\n  1 + (1 - 1)\n    SKIP", "p(1 + (1 - 1), x, c[0])", "p(1, a[1 + (1 - 1)], c[0])", "p(1, x, c[1 + (1 - 1)])"}) {
            boolean call = line.charAt(0) == 'p';
            need("PROC p(VAL INT v, INT r, CHAN c)\n  SKIP\n:\nINT x:\n[2]INT a:\n[2]CHAN c:\n" + line, 1 + 5 + 1 + 3 + (call ? 7 + 4 : 0), call ? 7 + 4 : 0);
        }
        need("INT x:\nSEQ i = 1 FOR 1 + (1 - 1)\n  SKIP", 1 + 1 + 2 + 1 + 3, 0);
        for (String guard : new String[] {"1 + (1 - 1) & SKIP", "c[1 + (1 - 1)] ? x", "TRUE & c[1 + (1 - 1)] ? x", "c[0] ? a[1 + (1 - 1)]"}) {
            need("INT x:\n[2]INT a:\n[2]CHAN c:\nALT\n  " + guard + "\n    SKIP", 1 + 5 + 2 + 1 + 3, 0);
        }
        need("PAR\n  SKIP\n  SKIP", 4 + 3 + 4 + 4 + 3, 3 + 4 + 4);
        need("PAR\n" + "  SKIP\n".repeat(8), 4 + 3 + 8 * 4 + 3, 3 + 8 * 4);
        need("PAR i = 0 FOR 1\n  SKIP", 4 + 3 + 4 + 3, 3 + 4);
        need("PAR i = 0 FOR 8\n  SKIP", 4 + 3 + 8 * 4 + 3, 3 + 8 * 4);
        need("PRI PAR\n  INT x:\n  SKIP\n  SKIP", 4 + 3 + 5 + 4 + 3, 3 + 5 + 4);
        need("SEQ\n  PAR\n    SKIP\n    SKIP\n  PAR\n    SKIP\n    INT x:\n    SKIP", 4 + 3 + 4 + 5 + 3, 3 + 4 + 5);
        need("PAR\n  PAR\n    SKIP\n    SKIP\n  SKIP", 4 + (3 + (4 + 11 + 3) + 4) + 3, 3 + 18 + 4);
        need("PROC p()\n  SKIP\n:\nSKIP", 4, 0);
        need("PROC p()\n  SKIP\n:\np()", 1 + 8 + 3, 8);
        need("PROC p(INT a, INT b, INT c, INT d, INT e, INT f)\n  SKIP\n:\n[6]INT x:\np(x[0], x[1], x[2], x[3], x[4], x[5])", 7 + 7 + 7 + 3, 14);
        need("PROC p()\n  SKIP\n:\nPROC q()\n  p()\n:\nSEQ\n  p()\n  q()\n  p()", 1 + 7 + 1 + 8 + 3, 16);
        need("PROC p()\n  PAR\n    SKIP\n    SKIP\n:\nPAR\n  p()\n  SKIP", 4 + (3 + (1 + (7 + 4 + 11) + 3) + 4) + 3, 3 + 26 + 4);
    }

    /** Variables of frames around are reached by adding what lies between. */
    private static void outer() {
        LinkedCores x = Calls.good("INT x, y, z:\nPAR\n  x := 1\n  PAR\n    y := 2\n    z := 3");
        String all = Calls.listing(x, 0, 0);
        // frame 7 words; first branch below by 4; second one (size 4, depth 11) by 3 + 4 + 4, its branches by 4 and 8 more
        Calls.due("x", all.contains("LDC 1 STL 5 LDLP 8 ENDP") ? 1 : 0, 1);
        Calls.due("y", all.contains("LDC 2 STL 17 LDLP 5 ENDP") ? 1 : 0, 1);
        Calls.due("z", all.contains("LDC 3 STL 22 LDLP 9 ENDP") ? 1 : 0, 1);
        Calls.finish("INT x, y, z:\nSEQ\n  PAR\n    x := 1\n    PAR\n      y := 2\n      z := 3\n  screen ! x\n  screen ! y\n  screen ! z", 1, "1 2 3");
        Calls.finish("[8]INT a:\nSEQ\n  PAR i = 0 FOR 8\n    PAR j = 0 FOR 1\n      a[i] := i + j\n  SEQ i = 0 FOR 8\n    screen ! a[i]", 1, "0 1 2 3 4 5 6 7");
    }
}
