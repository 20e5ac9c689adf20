/** Terms 2, names and the fault: where a name begins and ends to be one, what is wanted of it, and how many there may be. */
public final class FaultBoundsTest {
    private static final int FORM = 1;
    private static final int TWICE = 2;
    private static final int UNKNOWN = 3;
    private static final int KIND = 4;
    private static final int USE = 5;
    private static final int TOO_MUCH = 6;

    public static void main(String[] args) {
        scopes();
        innermost();
        twice();
        kinds();
        arguments();
        argumentsThatAreNoNames();
        manyProcs();
        manyLinks();
        manyNames();
        leastKind();
        words();
        wordsOfOthers();
        bytes();
        bytesAgain();
        bytesOfOthers();
        order();
        Calls.close();
    }

    private static LinkedCores fine(String text) {
        return Calls.good(text);
    }

    private static void fault(String text, int kind, int line, int place) {
        Calls.fault(text, kind, line, place);
    }

    /** A name is one from its declaration on to the end of its process, and nowhere else. */
    private static void scopes() {
        fine("SEQ\n  INT x:\n  x := 1\n  SKIP");
        fault("SEQ\n  INT x:\n  x := 1\n  x := 2", UNKNOWN, 3, 2);
        fault("SEQ\n  x := 1\n  INT x:\n  x := 2", UNKNOWN, 1, 2);
        fine("SEQ\n  INT x:\n  SEQ\n    x := 1\n    x := 2");
        fault("PAR\n  INT x:\n  x := 1\n  x := 2", UNKNOWN, 3, 2);
        fault("IF\n  TRUE\n    INT x:\n    x := 1\n  x > 0\n    SKIP", UNKNOWN, 4, 2);
        fault("ALT\n  TRUE & SKIP\n    INT x:\n    x := 1\n  keys ? x\n    SKIP", UNKNOWN, 4, 9);
        fault("ALT\n  keys ? x\n    INT x:\n    SKIP", UNKNOWN, 1, 9);
        fault("PROC p()\n  INT x:\n  x := 1\n:\nx := 2", UNKNOWN, 4, 0);
        // parameters
        fine("PROC p(INT x)\n  x := 1\n:\nSKIP");
        fault("PROC p(INT x)\n  x := 1\n:\nPROC q()\n  x := 1\n:\nSKIP", UNKNOWN, 4, 2);
        fault("PROC p(INT x)\n  x := 1\n:\nx := 1", UNKNOWN, 3, 0);
        // indexes
        fine("SEQ i = 0 FOR 2\n  screen ! i");
        fault("SEQ i = i FOR 2\n  SKIP", UNKNOWN, 0, 8);
        fault("SEQ i = 0 FOR i\n  SKIP", UNKNOWN, 0, 14);
        fault("SEQ\n  SEQ i = 0 FOR 2\n    SKIP\n  screen ! i", UNKNOWN, 3, 11);
        fault("SEQ\n  PAR i = 0 FOR 2\n    SKIP\n  screen ! i", UNKNOWN, 3, 11);
        fault("SEQ\n  SEQ i = 0 FOR 2\n    SKIP\n  SEQ j = i FOR 2\n    SKIP", UNKNOWN, 3, 10);
        // PROCs
        fine("PROC p()\n  SKIP\n:\nPROC q()\n  p()\n:\nq()");
        fault("PROC p()\n  p()\n:\nSKIP", UNKNOWN, 1, 2);
        fault("PROC p()\n  q()\n:\nPROC q()\n  SKIP\n:\nSKIP", UNKNOWN, 1, 2);
        // links
        String two = "LINK l FROM 0 TO 1:\nPLACED PAR\n  PROCESSOR 0\n    l ! 1\n  PROCESSOR 1\n    INT x:\n    l ? x";
        fine(two);
        fault("PROC p()\n  l ! 1\n:\n" + two, UNKNOWN, 1, 2);
        // names of one processor are none of the next one
        fault("PLACED PAR\n  PROCESSOR 0\n    INT x:\n    x := 1\n  PROCESSOR 1\n    x := 1", UNKNOWN, 5, 4);
        // the host's
        fine("INT x:\nSEQ\n  keys ? x\n  screen ! x");
        fault("key ? x", UNKNOWN, 0, 0);
        fault("screens ! 1", UNKNOWN, 0, 0);
    }

    /** Of names that are alike the innermost is meant, which is another one behind the end of its process. */
    private static void innermost() {
        Calls.finish("INT x:\nSEQ\n  x := 1\n  INT x:\n  SEQ\n    screen ! x\n    x := 2\n  screen ! x", 1, "0 1");
        Calls.finish("INT x:\nINT x:\nSEQ\n  x := 3\n  screen ! x", 1, "3");
        Calls.finish("INT i:\nSEQ\n  i := 2\n  SEQ i = i FOR i\n    screen ! i\n  screen ! i", 1, "2 3 2");
        Calls.finish("PROC p(VAL INT x)\n  SEQ\n    INT x:\n    x := 9\n    INT y:\n    y := x\n:\nINT x:\nSEQ\n  x := 4\n  p(5)\n  screen ! x", 1, "4");
        fault("INT x:\nCHAN x:\nx := 1", KIND, 2, 0);
        fine("CHAN x:\nINT x:\nx := 1");
        fault("INT screen:\nscreen ! 1", KIND, 1, 0);
        fine("INT screen:\nscreen := 1");
        fault("PROC p(INT keys)\n  INT x:\n  keys ? x\n:\nSKIP", KIND, 2, 2);
        fault("PROC p()\n  SKIP\n:\nINT p:\np()", KIND, 4, 0);
        fine("PROC p()\n  SKIP\n:\nSEQ\n  INT p:\n  p := 1\n  p()");
        fault("SEQ i = 0 FOR 1\n  INT i:\n  SEQ i = i FOR 1\n    i := 1", KIND, 3, 4);
    }

    private static void twice() {
        fault("INT x, x:\nSKIP", TWICE, 0, 7);
        fault("INT x, y, z, x:\nSKIP", TWICE, 0, 13);
        fault("[2]INT x, x:\nSKIP", TWICE, 0, 10);
        fault("CHAN x, x:\nSKIP", TWICE, 0, 8);
        fault("[2]CHAN x, x ;", TWICE, 0, 11);
        fine("INT x:\nCHAN x:\nSKIP");
        fault("PROC p(INT x, INT x)\n", TWICE, 0, 18);
        fault("PROC p(VAL INT x, CHAN y, [3]INT x)\n", TWICE, 0, 33);
        fine("PROC p(INT p)\n  INT p:\n  SKIP\n:\nSKIP");
        fine("PROC p(INT x)\n  SKIP\n:\nPROC q(INT x, INT p)\n  SKIP\n:\nSKIP");
        fault("PROC p()\n  SKIP\n:\nPROC p(", TWICE, 3, 5);
        for (String host : new String[] {"screen", "keys"}) {
            fault("PROC " + host + "()\n", TWICE, 0, 5);
            fault("LINK " + host + " FROM 0 TO 1:\n", TWICE, 0, 5);
            fine("PROC p(CHAN " + host + ")\n  SKIP\n:\nINT " + host + ":\nSKIP");
            fine("SEQ " + host + " = 0 FOR 1\n  SKIP");
        }
        fault("PROC l()\n  SKIP\n:\nLINK l FROM 0 TO 1:\n", TWICE, 3, 5);
        fault("LINK l FROM 0 TO 1:\nLINK l FROM 1 TO 0:\n", TWICE, 1, 5);
        fine("LINK l FROM 0 TO 1:\nPLACED PAR\n  PROCESSOR 0\n    INT l:\n    l := 1");
        fine("SEQ i = 0 FOR 1\n  PAR i = 0 FOR 2\n    SKIP");
    }

    /** Names of all kinds, with what each may be: Value, Target, cHannel, Procedure; small letters want a [ ]. */
    private static final String[][] NAMES = {{"x", "VT"}, {"v", "V"}, {"r", "VT"}, {"i", "V"}, {"j", "V"}, {"a", "vt"}, {"t", "vt"},
        {"c", "H"}, {"k", "H"}, {"e", "h"}, {"screen", "H"}, {"q", "P"}};
    private static final String AHEAD = "PROC q()\n  SKIP\n:\nPROC pv(VAL INT v)\n  SKIP\n:\nPROC pi(INT r)\n  SKIP\n:\nPROC pa([4]INT t)\n"
        + "  SKIP\n:\nPROC pc(CHAN c)\n  SKIP\n:\nPROC p(VAL INT v, INT r, [4]INT t, CHAN k)\n  INT x:\n  [4]INT a:\n  CHAN c:\n  [4]CHAN e:\n"
        + "  SEQ i = 0 FOR 1\n    PAR j = 0 FOR 1\n      ";
    private static final int LINE = 22;

    /** A line, or lines of an IF or ALT, in which # stands for the name. */
    private static void wants(String line, char kind) {
        for (String[] name : NAMES) {
            for (int indexed = 0; indexed < 2; indexed++) {
                String written = name[0] + (indexed == 0 ? "" : "[1]");
                char is = indexed == 0 ? kind : Character.toLowerCase(kind);
                int at = line.indexOf('#');
                String ahead = line.substring(0, at);
                int down = (int) ahead.chars().filter(c -> c == '\n').count();
                int place = down == 0 ? at + 6 : at - ahead.lastIndexOf('\n') - 1;
                LinkedCores x = Calls.object(AHEAD + line.replace("#", written) + "\n:\nSKIP");
                boolean fits = name[1].indexOf(is) >= 0;
                String got = x.fault(0) + " " + x.fault(1) + " " + x.fault(2);
                if (fits) {
                    Calls.due(written + " in " + line, x.fault(0) == 0 || x.fault(0) == USE ? 0 : x.fault(0), 0);
                } else {
                    Calls.due(written + " in " + line, got, KIND + " " + (LINE + down) + " " + place);
                }
            }
        }
    }

    private static void kinds() {
        wants("x := #", 'V');
        wants("x := 1 + #", 'V');
        wants("x := # + 1", 'V');
        wants("x := - #", 'V');
        wants("x := NOT (#)", 'V');
        wants("x := a[#]", 'V');
        wants("a[#] := 1", 'V');
        wants("c ! #", 'V');
        wants("WHILE #\n        SKIP", 'V');
        wants("IF\n        #\n          SKIP", 'V');
        wants("SEQ n = # FOR 1\n        SKIP", 'V');
        wants("SEQ n = 0 FOR #\n        SKIP", 'V');
        wants("ALT\n        # & SKIP\n          SKIP", 'V');
        wants("ALT\n        # = 1 & SKIP\n          SKIP", 'V');
        wants("ALT\n        1 = # & SKIP\n          SKIP", 'V');
        wants("pv(#)", 'V');
        wants("pv(1 + #)", 'V');
        wants("# := 1", 'T');
        wants("c ? #", 'T');
        wants("ALT\n        c ? #\n          SKIP", 'T');
        wants("pi(#)", 'T');
        wants("# ! 1", 'H');
        wants("# ? x", 'H');
        wants("ALT\n        # ? x\n          SKIP", 'H');
        wants("ALT\n        TRUE & # ? x\n          SKIP", 'H');
        wants("pc(#)", 'H');
        for (String[] name : NAMES) {
            LinkedCores x = Calls.object(AHEAD + name[0] + "()\n:\nSKIP");
            Calls.due("a CALL of " + name[0], x.fault(0) + " " + x.fault(2), name[0].equals("q") ? "0 -1" : KIND + " 6");
            boolean array = name[0].equals("a") || name[0].equals("t");
            LinkedCores y = Calls.object(AHEAD + "pa(" + name[0] + ")\n:\nSKIP");
            Calls.due("an array " + name[0], y.fault(0) + " " + y.fault(2), array ? "0 -1" : KIND + " 9");
            LinkedCores z = Calls.object(AHEAD + "pa(" + name[0] + "[0])\n:\nSKIP");
            Calls.due("an element of " + name[0], z.fault(0) + " " + z.fault(2), KIND + " 9");
        }
        // an array of another size
        for (int size : new int[] {1, 3, 5, 64}) {
            fault("PROC pa([4]INT t)\n  SKIP\n:\n[" + size + "]INT b:\npa(b)", KIND, 4, 3);
        }
        fine("PROC pa([1]INT t)\n  SKIP\n:\n[1]INT b:\npa(b)");
        fault("PROC pa([1]INT t)\n  SKIP\n:\nINT b:\npa(b)", KIND, 4, 3);
        // a link is a channel
        String l = "LINK l FROM 0 TO 1:\nPLACED PAR\n  PROCESSOR 0\n    INT x:\n    ";
        fine(l + "l ! 1");
        fault(l + "l := 1", KIND, 4, 4);
        fault(l + "l[0] ! 1", KIND, 4, 4);
        fault(l + "x := l", KIND, 4, 9);
        fault(l + "l()", KIND, 4, 4);
    }

    private static final String CALLED = "PROC none()\n  SKIP\n:\nPROC val(VAL INT v)\n  SKIP\n:\nPROC int(INT r)\n  SKIP\n:\nPROC row([4]INT t)\n"
        + "  SKIP\n:\nPROC chan(CHAN c)\n  SKIP\n:\nPROC six(INT a, INT b, VAL INT c, VAL INT d, CHAN e, [4]INT f)\n  SKIP\n:\n"
        + "INT x, y:\n[4]INT a:\nCHAN c:\n";
    private static final int CALL = 21;

    private static void call(String line, int kind, int place) {
        if (kind == 0) {
            fine(CALLED + line);
        } else {
            fault(CALLED + line, kind, CALL, place);
        }
    }

    /** As many arguments as parameters: one too many is seen at its , and a missing one at the ). */
    private static void arguments() {
        call("none()", 0, 0);
        for (String other : new String[] {"x", "1", ",", "(", "[", "nil", ";", "FOO", "a", "-", "", "]"}) {
            call("none(" + other, FORM, 5);
        }
        call("val(1)", 0, 0);
        call("val()", KIND, 4);
        call("val(1,", KIND, 5);
        call("val(1, 2)", KIND, 5);
        call("val(1,)", KIND, 5);
        call("val(1 ,;", KIND, 6);
        call("val(1", FORM, 5);
        call("val(1 x", FORM, 6);
        call("int(x)", 0, 0);
        call("int()", KIND, 4);
        call("int(x,", KIND, 5);
        call("row(a)", 0, 0);
        call("row()", KIND, 4);
        call("row(a,", KIND, 5);
        call("chan(c)", 0, 0);
        call("chan()", KIND, 5);
        call("chan(c,", KIND, 6);
        String six = "six(x, y, 3, 4, c, a";
        call(six + ")", 0, 0);
        call(six + ",", KIND, six.length());
        call(six + ", 1)", KIND, six.length());
        call(six, FORM, six.length());
        int[] ends = {5, 8, 11, 14, 17};
        for (int end : ends) {
            String some = six.substring(0, end);
            call(some + ")", KIND, end);
            call(some + ",)", KIND, end + 1);
            call(some + ",   )", KIND, end + 4);
            call(some + ";", FORM, end);
            call(some, FORM, end);
            call(some + " + 1 + 1", FORM, end < 10 || end == 17 ? end + 1 : end + 5);
        }
        call("six()", KIND, 4);
        call("six( )", KIND, 5);
        call("none() x", FORM, 7);
        call("none(", FORM, 5);
        call("val", FORM, 3);
    }

    /** Where an argument must begin with a name whatever else stands there is 4, at its place. */
    private static void argumentsThatAreNoNames() {
        for (String token : new String[] {"1", "TRUE", "(", ")", "[", "]", ",", ":", ":=", "-", "NOT", "+", "=", "SEQ", ";", ".", "FOO", "99999999999",
            "2147483648", "abcdefghijk", "\"", ""}) {
            for (String name : new String[] {"int(", "row(", "chan("}) {
                call(name + token, KIND, name.length());
                call(name + "  " + token, KIND, name.length() + 2);
            }
            call("six(x, " + token, KIND, 7);
            call("six(x, y, 3, 4, " + token, KIND, 16);
            call("six(x, y, 3, 4, c, " + token, KIND, 19);
        }
        call("int(nil", UNKNOWN, 4);
        call("row(nil", UNKNOWN, 4);
        call("chan(nil", UNKNOWN, 5);
        // an E begins with more than names; what can't begin it is FORM
        for (String token : new String[] {"[", "]", ":", ":=", "+", "=", "SEQ", ";", "FOO", "99999999999", "abcdefghijk", ""}) {
            call("val(" + token, FORM, 4);
            call("six(x, y, " + token, FORM, 10);
        }
        call("val(- 1)", 0, 0);
        call("val(NOT 1)", 0, 0);
        call("val((1))", 0, 0);
    }

    // too much

    private static String procs(int many) {
        StringBuilder all = new StringBuilder();
        for (int k = 0; k < many; k++) {
            all.append("PROC p").append(k).append("()\n  SKIP\n:\n");
        }
        return all.toString();
    }

    private static void manyProcs() {
        Calls.due("23", fine(procs(23) + "p22()").about(4), 23);
        Calls.due("24", fine(procs(24) + "p23()").about(4), 24);
        fault(procs(25) + "SKIP", TOO_MUCH, 72, 5);
        fault(procs(24) + "PROC more", TOO_MUCH, 72, 5);
        fault(procs(24) + "PROC  more ; ;", TOO_MUCH, 72, 6);
        fault(procs(24) + "PROC p0", TWICE, 72, 5);
        fault(procs(24) + "PROC keys", TWICE, 72, 5);
        fault(procs(24) + "PROC 1", FORM, 72, 5);
        fault(procs(24) + "PROC abcdefghijk", FORM, 72, 5);
        fault(procs(24) + "PROC", FORM, 72, 4);
    }

    private static String links(int many) {
        StringBuilder all = new StringBuilder();
        for (int k = 0; k < many; k++) {
            all.append("LINK l").append(k).append(" FROM ").append(k % 2).append(" TO ").append(1 - k % 2).append(":\n");
        }
        return all.toString();
    }

    private static void manyLinks() {
        String placed = "PLACED PAR\n  PROCESSOR 1\n    l11 ! 7\n  PROCESSOR 0\n    INT x:\n    l11 ? x";
        LinkedCores x = fine(links(12) + placed);
        Calls.due("12", x.about(0), 12);
        Calls.due("the last one", x.link(11, 0) + " " + x.link(11, 1), "1 0");
        Calls.refused("no 13th", Calls.INDEX, () -> x.link(12, 0));
        Calls.due("its address", Calls.listing(x, 1, 0), "LDC 7 LDC 11 OUT DONE");
        x.rounds(5000);
        Calls.due("it carries", x.outcome() + " " + x.word(0, x.processor(0, 3) + 1), "1 7");
        fault(links(13) + "PLACED", TOO_MUCH, 12, 5);
        fault(links(12) + "LINK more", TOO_MUCH, 12, 5);
        fault(links(12) + "LINK l11", TWICE, 12, 5);
        fault(links(12) + "LINK screen", TWICE, 12, 5);
        fault(links(12) + "LINK 1", FORM, 12, 5);
        LinkedCores y = fine("LINK l FROM 0 TO 1:\nPLACED PAR\n  PROCESSOR 0\n    SKIP");
        Calls.due("one", y.about(0), 1);
        Calls.due("none", fine("SKIP").about(0), 0);
    }

    /** A declaration of so many names, with as few signs as can be. */
    private static String many(int names) {
        StringBuilder all = new StringBuilder("INT ");
        for (int k = 0; k < names; k++) {
            all.append(k == 0 ? "" : ",").append((char) ('a' + k / 10)).append(k % 10);
        }
        return all + ":\n";
    }

    /** All of them count, of each sort: the 200th is fine, the 201st is too much, at its place. */
    private static void manyNames() {
        Calls.due("200 declared", fine(many(200) + "SKIP").about(3), 200);
        fault(many(201) + "SKIP", TOO_MUCH, 0, 4 + 200 * 3);
        Calls.due("199 and one", fine(many(199) + "INT x:\nSKIP").about(3), 200);
        fault(many(200) + "INT x ;", TOO_MUCH, 1, 4);
        fault(many(200) + "[3]CHAN x ;", TOO_MUCH, 1, 8);
        Calls.due("an index of SEQ", fine(many(199) + "SEQ i = 0 FOR 1\n  SKIP").about(3), 200);
        fault(many(200) + "SEQ i ;", TOO_MUCH, 1, 4);
        Calls.due("an index of PAR", fine(many(199) + "PAR i = 0 FOR 8\n  SKIP").about(3), 200);
        fault(many(200) + "PAR i ;", TOO_MUCH, 1, 4);
        // names in different processes count, also where they are alike
        fine("SEQ\n  " + many(100) + "  SKIP\n  " + many(100) + "  SKIP");
        fault("SEQ\n  " + many(100) + "  SKIP\n  " + many(101) + "  SKIP", TOO_MUCH, 3, 6 + 100 * 3);
        String proc = "PROC p()\n  %s  SKIP\n:\n";
        Calls.due("a PROC and its names", fine(String.format(proc, many(198)) + "PROC q()\n  SKIP\n:\nSKIP").about(3), 200);
        fault(String.format(proc, many(199)) + "PROC q ;", TOO_MUCH, 4, 5);
        Calls.due("a parameter", fine(String.format(proc, many(197)) + "PROC q(INT r)\n  SKIP\n:\nSKIP").about(3), 200);
        fault(String.format(proc, many(198)) + "PROC q(INT r ;", TOO_MUCH, 4, 11);
        fault(String.format(proc, many(198)) + "PROC q([3]INT r ;", TOO_MUCH, 4, 14);
        Calls.due("a link", fine(String.format(proc, many(198)) + "LINK l FROM 0 TO 1:\nPLACED PAR\n  PROCESSOR 0\n    SKIP").about(3), 200);
        fault(String.format(proc, many(199)) + "LINK l ;", TOO_MUCH, 4, 5);
        Calls.due("none", fine("screen ! 1").about(3), 0);
    }

    /** At one token the least kind. */
    private static void leastKind() {
        fault(many(200) + "INT 5", FORM, 1, 4);
        fault(many(200) + "INT abcdefghijk", FORM, 1, 4);
        fault(many(199) + "INT x, x", TWICE, 1, 7);
        fault(many(199) + "INT x, y", TOO_MUCH, 1, 7);
        fault(many(200).replace(":\n", ",a0:\n"), TWICE, 0, 4 + 200 * 3);
        fault("PROC q()\n  " + many(197) + "  SKIP\n:\nPROC p(INT x, INT x", TWICE, 4, 18);
        fault("PROC q()\n  " + many(199) + "  SKIP\n:\nLINK q", TWICE, 4, 5);
        fault("SEQ\n nil := 1", FORM, 1, 1);
        fault("SEQ\n    nil := 1", FORM, 1, 4);
        fault("SKIP\nnil := 1", FORM, 1, 0);
        fault("INT x:\nx := 1 nil", FORM, 1, 7);
    }

    // words: size and depth and 3

    /** Declarations of so many words at a level. */
    private static String arrays(int words, int level) {
        StringBuilder all = new StringBuilder();
        for (int left = words; left > 0; left -= 64) {
            all.append("  ".repeat(level)).append('[').append(Math.min(left, 64)).append("]INT a:\n");
        }
        return all.toString();
    }

    private static void fits(String text, int words) {
        LinkedCores x = fine(text);
        Calls.due("words", x.processor(0, 1), words);
        Calls.due("the last of them", x.word(0, words + 15), 0);
        Calls.refused("no more", Calls.INDEX, () -> x.word(0, words + 16));
    }

    private static void words() {
        fits(arrays(3995, 0) + "SKIP", 3999);
        fits(arrays(3996, 0) + "SKIP", 4000);
        fault(arrays(3997, 0) + "SKIP", TOO_MUCH, -1, -1);
        fault(arrays(5000, 0) + "SKIP", TOO_MUCH, -1, -1);
        // the words of a SEQ's index, of an ALT, of a PAR, and of an E
        fits(arrays(3994, 0) + "SEQ i = 0 FOR 1\n  SKIP", 4000);
        fault(arrays(3995, 0) + "SEQ i = 0 FOR 1\n  SKIP", TOO_MUCH, -1, -1);
        fits(arrays(3992, 0) + "ALT\n  TRUE & SKIP\n    SKIP\n  TRUE & SKIP\n    SKIP", 4000);
        fault(arrays(3993, 0) + "ALT\n  TRUE & SKIP\n    SKIP\n  TRUE & SKIP\n    SKIP", TOO_MUCH, -1, -1);
        fits(arrays(3995, 0) + "screen ! 1 + (1 + 1)", 4000);
        fault(arrays(3996, 0) + "screen ! 1 + (1 + 1)", TOO_MUCH, -1, -1);
        // a PAR: its three words, 3 below, and each branch's size, depth and 3
        fits(arrays(4000 - 1 - 3 - 3 - 4 - 4 - 3, 0) + "PAR\n  SKIP\n  SKIP", 4000);
        fault(arrays(4000 - 1 - 3 - 3 - 4 - 4 - 3 + 1, 0) + "PAR\n  SKIP\n  SKIP", TOO_MUCH, -1, -1);
        String branch = "PAR i = 0 FOR 8\n" + arrays(494, 1) + "  SKIP";
        fits(arrays(6, 0) + branch, 4 + 6 + 3 + 8 * 498 + 3);
        fault(arrays(7, 0) + branch, TOO_MUCH, -1, -1);
    }

    /** A PROC that is not called, a CALL (7 and the PROC's size and depth), another processor. */
    private static void wordsOfOthers() {
        String p = "PROC p()\n" + arrays(3996, 1) + "  SKIP\n:\n";
        fits(p + "SKIP", 4);
        fault("PROC p()\n" + arrays(3997, 1) + "  SKIP\n:\nSKIP", TOO_MUCH, -1, -1);
        // 1 + 7 + (1 + words) + 3
        fits("PROC p()\n" + arrays(3988, 1) + "  SKIP\n:\np()", 4000);
        fault("PROC p()\n" + arrays(3989, 1) + "  SKIP\n:\np()", TOO_MUCH, -1, -1);
        fits("PROC p()\n" + arrays(3980, 1) + "  SKIP\n:\nPROC q()\n  p()\n:\nq()", 4000);
        fault("PROC p()\n" + arrays(3981, 1) + "  SKIP\n:\nPROC q()\n  p()\n:\nq()", TOO_MUCH, -1, -1);
        fault("PROC p()\n" + arrays(3989, 1) + "  SKIP\n:\nPROC q()\n  p()\n:\nSKIP", TOO_MUCH, -1, -1);
        fits("PROC p()\n" + arrays(3988, 1) + "  SKIP\n:\nPROC q()\n  p()\n:\nSKIP", 4);
        String placed = "PLACED PAR\n  PROCESSOR 0\n    SKIP\n  PROCESSOR 5\n";
        fine(placed + arrays(3996, 2) + "    SKIP");
        fault(placed + arrays(3997, 2) + "    SKIP", TOO_MUCH, -1, -1);
        StringBuilder nest = new StringBuilder();
        for (int k = 0; k < 15; k++) {
            nest.append("  ".repeat(k)).append("PAR i = 0 FOR 8\n");
        }
        fault(nest + "  ".repeat(15) + "SKIP", TOO_MUCH, -1, -1);
        StringBuilder chain = new StringBuilder("PROC p0()\n" + arrays(64, 1) + "  SKIP\n:\n");
        for (int k = 1; k < 24; k++) {
            chain.append("PROC p").append(k).append("()\n  PAR i = 0 FOR 8\n    p").append(k - 1).append("()\n:\n");
        }
        fault(chain + "SKIP", TOO_MUCH, -1, -1);
    }

    // bytes

    private static final String WIDE = "PAR i = 0 FOR 8\n  PAR j = 0 FOR 8\n    INT y:\n    SEQ\n";
    private static final int SIX = 64 * 6;

    /** Lines with which a SEQ has so many bytes more: nine, three or two each. */
    private static String more(int bytes, String ahead) {
        StringBuilder all = new StringBuilder();
        int left = bytes;
        for (; left > 20; left -= 9) {
            all.append(ahead).append("x := 2147483647\n");
        }
        for (; left % 2 != 0; left -= 3) {
            all.append(ahead).append("x := 16\n");
        }
        for (; left > 0; left -= 2) {
            all.append(ahead).append("x := 0\n");
        }
        return all.toString();
    }

    private static String shifted(String text) {
        return "  " + text.replace("\n", "\n  ");
    }

    private static String sized(int lines, int bytes) {
        String wide = WIDE + "      y := 70000\n".repeat(lines);
        return "INT x:\nSEQ\n" + shifted(wide).replaceAll(" +$", "") + more(bytes, "  ");
    }

    private static void bytes() {
        int base = fine(sized(12, 10)).processor(0, 0) - 10;
        int left = 6000 - base;
        Calls.due("there is room for some lines, and not for one more of each branch", left > 30 && left < SIX ? 1 : 0, 1);
        Calls.due("5999", fine(sized(12, left - 1)).processor(0, 0), 5999);
        Calls.due("6000", fine(sized(12, left)).processor(0, 0), 6000);
        fault(sized(12, left + 1), TOO_MUCH, -1, -1);
        fault(sized(12, left + 2), TOO_MUCH, -1, -1);
        fault(sized(12, left + 300), TOO_MUCH, -1, -1);
        fault(sized(40, 10), TOO_MUCH, -1, -1);
        LinkedCores x = fine(sized(12, left));
        Calls.due("the last byte", x.code(0, 5999), 255);
        Calls.refused("no byte behind", Calls.INDEX, () -> x.code(0, 6000));
        Calls.due("DONE", x.instruction(0, 5998, 1) + " " + x.instruction(0, 5998, 2), "31 2");
    }

    /** A program behind one that was too much, or behind many with ways, on the same object. */
    private static void bytesAgain() {
        LinkedCores x = new LinkedCores();
        for (int k = 0; k < 4; k++) {
            Calls.write(x, WIDE + "      y := 70000\n".repeat(14));
            Calls.due("too much", x.compile() + " " + x.fault(0), "-1 6");
            Calls.write(x, "screen ! 3");
            Calls.due("fine", x.compile() + " " + x.fault(0) + " " + x.processor(0, 0), "1 0 6");
        }
        LinkedCores y = new LinkedCores();
        for (int k = 0; k < 12; k++) {
            Calls.write(y, "PAR i=0FOR 8\n  PAR i=0FOR 8\n    WHILE 0" + "AND(1".repeat(8) + ")".repeat(8) + "\n      SKIP");
            Calls.due("fine", y.compile() + " " + y.fault(0), "1 0");
        }
        y.rounds(5000);
        Calls.due("it runs", y.outcome(), 1);
    }

    /** Each processor has the PROCs' code and its own. */
    private static void bytesOfOthers() {
        String proc = "PROC p(INT x)\n  SEQ\n" + shifted(shifted(WIDE + "      y := 70000\n".repeat(12))).replaceAll(" +$", "") + ":\n";
        String one = "PLACED PAR\n  PROCESSOR 3\n    INT x:\n    SEQ\n";
        int base = fine(proc + one).processor(3, 0);
        int left = 6000 - base;
        Calls.due("6000", fine(proc + one + more(left, "      ")).processor(3, 0), 6000);
        fault(proc + one + more(left + 1, "      "), TOO_MUCH, -1, -1);
        fault(proc + one + "  PROCESSOR 4\n    INT x:\n    SEQ\n" + more(left + 1, "      "), TOO_MUCH, -1, -1);
        LinkedCores two = fine(proc + one + more(left, "      ") + "  PROCESSOR 4\n    INT x:\n    SEQ\n" + more(left, "      "));
        Calls.due("6000 each", two.processor(3, 0) + " " + two.processor(4, 0), "6000 6000");
    }

    /** Words, then use, then bytes; and all of them behind what is found in the text. */
    private static void order() {
        String clash = "PAR\n  a[0] := 1\n  a[0] := 2";
        fault(arrays(3997, 0) + clash, TOO_MUCH, -1, -1);
        fault(arrays(64, 0) + clash, USE, 1, -1);
        fault(arrays(3997, 0) + clash + "\n  nil := 1", UNKNOWN, arrays(3997, 0).split("\n").length + 3, 2);
        fault(sized(40, 10) + "  PAR\n    x := 1\n    x := 2", USE, 2 + 4 + 40 + more(10, "").split("\n").length, -1);
        fault(sized(40, 10) + "  x := nil", UNKNOWN, 2 + 4 + 40 + more(10, "").split("\n").length, 7);
        fault(arrays(3997, 0) + sized(40, 10), TOO_MUCH, -1, -1);
    }
}
