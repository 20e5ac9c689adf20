import java.util.NoSuchElementException;

/** What the tests share: texts into objects, answers against what is due, code as a listing. */
final class Calls {
    static final int STATE = -1001;
    static final int ELEMENT = -1002;
    static final int ARGUMENT = -1003;
    static final int INDEX = -1004;
    static final int UNSUPPORTED = -1005;
    static final int MACHINE = -1006;

    private static final String[] FUNCTIONS = {"J", "LDLP", "PFIX", "LDNL", "LDC", "LDNLP", "NFIX", "LDL", "ADC", "CALL",
        "CJ", "AJW", "EQC", "STL", "STNL", "OPR"};
    private static final String[] OPERATIONS = {"REV", "ADD", "SUB", "MUL", "DIV", "REM", "GT", "AND", "OR", "SHL", "SHR",
        "WSUB", "CHECK", "LDPI", "FILL", "STARTP", "STARTH", "ENDP", "STOPP", "RET", "IN", "OUT", "ALT", "ENBC", "ENBS",
        "ALTWT", "DISC", "DISS", "ALTEND", "FAIL", "LDSELF", "DONE"};

    private static int wrong = 0;
    private static int asked = 0;

    private Calls() { }

    interface Call {
        int answer();
    }

    /** The answer of a call, or a number that tells which exception came. */
    static int of(Call call) {
        try {
            return call.answer();
        } catch (IllegalStateException e) {
            return STATE;
        } catch (NoSuchElementException e) {
            return ELEMENT;
        } catch (IllegalArgumentException e) {
            return ARGUMENT;
        } catch (IndexOutOfBoundsException e) {
            // the machine's own ones are of classes below it
            return e.getClass() == IndexOutOfBoundsException.class ? INDEX : MACHINE;
        } catch (UnsupportedOperationException e) {
            return UNSUPPORTED;
        }
    }

    static void due(String what, long got, long want) {
        asked++;
        if (got != want) {
            wrong++;
            System.out.println(what + ": answered " + got + ", due is " + want);
        }
    }

    static void due(String what, String got, String want) {
        asked++;
        if (!got.equals(want)) {
            wrong++;
            System.out.println(what + ": answered\n  " + got + "\ndue is\n  " + want);
        }
    }

    static void close() {
        System.out.println(asked + " answers, " + wrong + " wrong");
        if (wrong != 0 || asked == 0) {
            System.exit(1);
        }
    }

    static void write(LinkedCores x, String text) {
        for (int k = 0; k < text.length(); k += 4) {
            int signs = 0;
            for (int j = 0; j < 4 && k + j < text.length(); j++) {
                signs |= text.charAt(k + j) << 8 * j;
            }
            x.put(signs);
        }
    }

    static LinkedCores object(String text) {
        LinkedCores x = new LinkedCores();
        write(x, text);
        x.compile();
        return x;
    }

    /** One that must be without a fault. */
    static LinkedCores good(String text) {
        LinkedCores x = object(text);
        due("fault of\n" + text, x.fault(0) + " " + x.fault(1) + " " + x.fault(2), "0 -1 -1");
        return x;
    }

    static void fault(String text, int kind, int line, int place) {
        LinkedCores x = object(text);
        due("fault of\n" + text, x.fault(0) + " " + x.fault(1) + " " + x.fault(2), kind + " " + line + " " + place);
        due("program with a fault", of(x::outcome), kind == 0 ? 0 : STATE);
    }

    /** The instructions from a byte on, operations by their names. */
    static String listing(LinkedCores x, int p, int from) {
        StringBuilder all = new StringBuilder();
        for (int k = from; k < x.processor(p, 0); k += x.instruction(p, k, 2)) {
            int function = x.instruction(p, k, 0);
            int operand = x.instruction(p, k, 1);
            all.append(all.length() == 0 ? "" : " ");
            all.append(function == 15 ? OPERATIONS[operand] : FUNCTIONS[function] + " " + operand);
        }
        return all.toString();
    }

    static void code(String text, String want) {
        LinkedCores x = good(text);
        due("code of\n" + text, listing(x, 0, 0), want);
    }

    static String outputs(LinkedCores x) {
        StringBuilder all = new StringBuilder();
        for (int k = 0; k < Math.min(x.about(2), 1000); k++) {
            all.append(k == 0 ? "" : " ").append(x.output(k));
        }
        return all.toString();
    }

    /** Runs to the end, with inputs given at the beginning. */
    static LinkedCores finish(String text, int outcome, String shown, int... inputs) {
        LinkedCores x = good(text);
        for (int v : inputs) {
            x.input(v);
        }
        for (int k = 0; k < 20; k++) {
            x.rounds(5000);
        }
        due("outcome of\n" + text, x.outcome(), outcome);
        due("outputs of\n" + text, outputs(x), shown);
        return x;
    }
}
