import java.util.NoSuchElementException;

/** What the tests share: texts into objects, answers against what is due, code as a listing. */
final class Calls {
    static final int STATE = -1001;
    static final int ELEMENT = -1002;
    static final int ARGUMENT = -1003;
    static final int INDEX = -1004;
    static final int UNSUPPORTED = -1005;
    static final int MACHINE = -1006;

    private static final String[] FUNCTIONS = {"J", "LDLP", "PFIX", "LDNL", "LDC", "LDNLP", "NFIX", "LDL", "ADC", "CALL",
        "CJ", "AJW", "EQC", "STL", "STNL", "OPR"};
    private static final String[] OPERATIONS = {"REV", "ADD", "SUB", "MUL", "DIV", "REM", "GT", "AND", "OR", "SHL", "SHR",
        "WSUB", "CHECK", "LDPI", "FILL", "STARTP", "STARTH", "ENDP", "STOPP", "RET", "IN", "OUT", "ALT", "ENBC", "ENBS",
        "ALTWT", "DISC", "DISS", "ALTEND", "FAIL", "LDSELF", "DONE"};

    private static final int SECONDS = 240;

    private static int wrong = 0;
    private static int asked = 0;

    private Calls() { }

    interface Call {
        int answer();
    }

    interface Question {
        boolean holds();
    }

    /** A call that doesn't end is a wrong one: no test takes that long. */
    static {
        Thread watch = new Thread(() -> {
            try {
                Thread.sleep(SECONDS * 1000L);
            } catch (InterruptedException e) {
                return;
            }
            System.out.println("no end after " + SECONDS + " seconds");
            Runtime.getRuntime().halt(1);
        });
        watch.setDaemon(true);
        watch.start();
    }

    /** The answer of a call, or a number that tells which exception came. */
    static int of(Call call) {
        try {
            return call.answer();
        } catch (IllegalStateException e) {
            return STATE;
        } catch (NoSuchElementException e) {
            return ELEMENT;
        } catch (IllegalArgumentException e) {
            return ARGUMENT;
        } catch (IndexOutOfBoundsException e) {
            // the machine's own ones are of classes below it
            return e.getClass() == IndexOutOfBoundsException.class ? INDEX : MACHINE;
        } catch (UnsupportedOperationException e) {
            return UNSUPPORTED;
        }
    }

    static void due(String what, long got, long want) {
        asked++;
        if (got != want) {
            wrong++;
            System.out.println(what + ": answered " + got + ", due is " + want);
        }
    }

    static void due(String what, String got, String want) {
        asked++;
        if (!got.equals(want)) {
            wrong++;
            System.out.println(what + ": answered\n  " + got + "\ndue is\n  " + want);
        }
    }

    static void close() {
        System.out.println(asked + " answers, " + wrong + " wrong");
        if (wrong != 0 || asked == 0) {
            System.exit(1);
        }
    }

    static void write(LinkedCores x, String text) {
        for (int k = 0; k < text.length(); k += 4) {
            int signs = 0;
            for (int j = 0; j < 4 && k + j < text.length(); j++) {
                signs |= text.charAt(k + j) << 8 * j;
            }
            x.put(signs);
        }
    }

    static LinkedCores object(String text) {
        LinkedCores x = new LinkedCores();
        write(x, text);
        x.compile();
        return x;
    }

    /** One that must be without a fault. */
    static LinkedCores good(String text) {
        LinkedCores x = object(text);
        due("fault of\n" + text, x.fault(0) + " " + x.fault(1) + " " + x.fault(2), "0 -1 -1");
        return x;
    }

    static void fault(String text, int kind, int line, int place) {
        LinkedCores x = object(text);
        due("fault of\n" + text, x.fault(0) + " " + x.fault(1) + " " + x.fault(2), kind + " " + line + " " + place);
        due("program with a fault", of(x::outcome), kind == 0 ? 0 : STATE);
    }

    /** The instructions from a byte on, operations by their names. */
    static String listing(LinkedCores x, int p, int from) {
        StringBuilder all = new StringBuilder();
        for (int k = from; k < x.processor(p, 0); k += x.instruction(p, k, 2)) {
            int function = x.instruction(p, k, 0);
            int operand = x.instruction(p, k, 1);
            all.append(all.length() == 0 ? "" : " ");
            all.append(function == 15 ? OPERATIONS[operand] : FUNCTIONS[function] + " " + operand);
        }
        return all.toString();
    }

    static void code(String text, String want) {
        LinkedCores x = good(text);
        due("code of\n" + text, listing(x, 0, 0), want);
    }

    static String outputs(LinkedCores x) {
        StringBuilder all = new StringBuilder();
        for (int k = 0; k < Math.min(x.about(2), 1000); k++) {
            all.append(k == 0 ? "" : " ").append(x.output(k));
        }
        return all.toString();
    }

    /** A call that must throw. */
    static void refused(String what, int exception, Call call) {
        due(what, of(call), exception);
    }

    /** All that is seen of an object, each call without effect: some hundred of them for a small program. */
    static String seen(LinkedCores x) {
        StringBuilder all = new StringBuilder();
        all.append("signs ").append(x.put(0)).append(" fault ").append(x.fault(0)).append(' ').append(x.fault(1)).append(' ').append(x.fault(2));
        int outcome = of(x::outcome);
        if (outcome == STATE) {
            return all + " no program";
        }
        all.append(" outcome ").append(outcome);
        for (int p = 0; p < 6; p++) {
            seenOf(x, p, all);
        }
        for (int l = 0; l < x.about(0); l++) {
            all.append("\nlink ").append(l);
            for (int what = 0; what < 6; what++) {
                all.append(' ').append(x.link(l, what));
            }
        }
        all.append("\nabout");
        for (int what = 0; what < 7; what++) {
            all.append(' ').append(x.about(what));
        }
        return all + "\noutputs " + outputs(x);
    }

    private static void seenOf(LinkedCores x, int p, StringBuilder all) {
        if (of(() -> x.core(p, 6)) == ELEMENT) {
            return;
        }
        all.append("\ncore ").append(p);
        for (int what = 0; what < 13; what++) {
            all.append(' ').append(x.core(p, what));
        }
        int ready = x.core(p, 9) + x.core(p, 10);
        all.append(" ready");
        for (int i = 0; i < ready; i++) {
            all.append(' ').append(x.ready(p, i));
        }
        int words = x.processor(p, 1) + 16;
        all.append(" words");
        for (int k = 0; k < words; k++) {
            all.append(' ').append(x.word(p, k));
        }
    }

    /** A core does byte after byte until something holds: how many; it must come there. */
    static int till(LinkedCores x, int p, Question question) {
        for (int k = 0; k < 200; k++) {
            if (question.holds()) {
                return k;
            }
            x.run(p, 1);
        }
        due("it came there", question.holds() ? 1 : 0, 1);
        return 200;
    }

    /** Runs to the end, with inputs given at the beginning. */
    static LinkedCores finish(String text, int outcome, String shown, int... inputs) {
        LinkedCores x = good(text);
        for (int v : inputs) {
            x.input(v);
        }
        for (int k = 0; k < 20; k++) {
            x.rounds(5000);
        }
        due("outcome of\n" + text, x.outcome(), outcome);
        due("outputs of\n" + text, outputs(x), shown);
        return x;
    }
}
