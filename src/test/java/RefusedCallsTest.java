/**
 * "A call that throws changes nothing; of several exceptions the one that it names first is thrown." In each state an
 * object is asked every call that must be refused there, and then looks, and goes on, as one that was not asked.
 */
public final class RefusedCallsTest {
    private static final int[] OUTSIDE = {Integer.MIN_VALUE, -2, -1};
    private static final String TWO = "LINK l FROM 0 TO 5:\nLINK m FROM 5 TO 0:\nPLACED PAR\n  PROCESSOR 0\n    INT x, y:\n    CHAN c:\n"
        + "    PRI PAR\n      SEQ\n        keys ? x\n        screen ! x\n        c ! 1\n      PAR\n        l ! 70000\n        m ? y\n"
        + "        WHILE TRUE\n          SKIP\n  PROCESSOR 5\n    INT z:\n    SEQ\n      m ! 9\n      l ? z";

    public static void main(String[] args) {
        scene("a new object", RefusedCallsTest::fresh);
        scene("a text, and no program", RefusedCallsTest::half);
        scene("a fault", RefusedCallsTest::faulty);
        scene("at the beginning", RefusedCallsTest::beginning);
        scene("between the bytes of an instruction", RefusedCallsTest::between);
        scene("some are ready, and a word is on its way", RefusedCallsTest::busy);
        scene("a text behind a program", RefusedCallsTest::behind);
        scene("done", RefusedCallsTest::done);
        scene("an error", RefusedCallsTest::error);
        inputs();
        inputsOfAProgramThatIsGone();
        outputs();
        Calls.close();
    }

    private interface Scene {
        void play(LinkedCores x);
    }

    private static void fresh(LinkedCores x) {
        x.end(0);
    }

    private static void half(LinkedCores x) {
        Calls.write(x, "SEQ\n  SKIP\n  sc");
    }

    private static void faulty(LinkedCores x) {
        Calls.write(x, "SKIP");
        x.compile();
        Calls.write(x, "SEQ\n  INT x:\n  x := y");
        x.compile();
    }

    private static void beginning(LinkedCores x) {
        Calls.write(x, TWO);
        x.compile();
    }

    private static void between(LinkedCores x) {
        Calls.write(x, "PLACED PAR\n  PROCESSOR 5\n    INT x:\n    x := 70000\n  PROCESSOR 0\n    SKIP");
        x.compile();
        x.run(5, 7);
    }

    private static void busy(LinkedCores x) {
        beginning(x);
        x.run(0, 90);
        x.run(5, 30);
        x.beat(3);
        x.input(-5);
        x.input(6);
    }

    private static void behind(LinkedCores x) {
        busy(x);
        Calls.write(x, "STOP\n");
    }

    private static void done(LinkedCores x) {
        Calls.write(x, "SEQ\n  screen ! 3\n  screen ! 4");
        x.compile();
        x.rounds(5000);
    }

    private static void error(LinkedCores x) {
        Calls.write(x, "LINK l FROM 5 TO 0:\nPLACED PAR\n  PROCESSOR 5\n    l ! 1 / 0\n  PROCESSOR 0\n    WHILE TRUE\n      SKIP");
        x.compile();
        x.rounds(50);
    }

    /** Each group of calls has objects of its own: none of them is used for more than 512 calls. */
    private static void scene(String name, Scene scene) {
        String before = Calls.seen(played(scene));
        LinkedCores other = played(scene);
        goOn(other);
        String later = Calls.seen(other);
        for (int group = 0; group < 4; group++) {
            LinkedCores asked = played(scene);
            ask(asked, group);
            Calls.due(name + ": nothing changed by group " + group, Calls.seen(asked), before);
            LinkedCores again = played(scene);
            ask(again, group);
            goOn(again);
            Calls.due(name + ": it goes on the same way behind group " + group, Calls.seen(again), later);
        }
    }

    private static LinkedCores played(Scene scene) {
        LinkedCores x = new LinkedCores();
        scene.play(x);
        return x;
    }

    private static void ask(LinkedCores x, int group) {
        boolean program = Calls.of(x::outcome) != Calls.STATE;
        if (group == 0) {
            texts(x, x.put(0));
        } else if (!program) {
            noProgram(x);
        } else if (group == 1) {
            processors(x);
        } else if (group == 2) {
            parts(x);
        } else {
            machine(x);
        }
    }

    private static void goOn(LinkedCores x) {
        if (x.put(0) != 0) {
            Calls.write(x, "SKIP");
            x.compile();
        } else if (Calls.of(x::outcome) != Calls.STATE) {
            x.rounds(60);
        }
    }

    private static int shorten(LinkedCores x, int n) {
        x.end(n);
        return 0;
    }

    private static void texts(LinkedCores x, int signs) {
        Calls.refused("put, one wrong sign", Calls.ARGUMENT, () -> x.put(31));
        Calls.refused("put, the fourth one wrong", Calls.ARGUMENT, () -> x.put('a' | 'b' << 8 | 'c' << 16 | 127 << 24));
        Calls.refused("put, all wrong", Calls.ARGUMENT, () -> x.put(-1));
        for (int n : new int[] {Integer.MIN_VALUE, -1, signs + 1, Integer.MAX_VALUE}) {
            Calls.refused("end " + n, Calls.ARGUMENT, () -> shorten(x, n));
        }
        for (int what : new int[] {Integer.MIN_VALUE, -1, 3, Integer.MAX_VALUE}) {
            Calls.refused("fault " + what, Calls.ARGUMENT, () -> x.fault(what));
        }
    }

    /** Without a program that is told ahead of all else, also where the arguments would do. */
    private static void noProgram(LinkedCores x) {
        for (int k : new int[] {0, -1, 9999}) {
            Calls.refused("processor", Calls.STATE, () -> x.processor(k, k));
            Calls.refused("code", Calls.STATE, () -> x.code(k, k));
            Calls.refused("instruction", Calls.STATE, () -> x.instruction(k, k, k));
            Calls.refused("link", Calls.STATE, () -> x.link(k, k));
            Calls.refused("input", Calls.STATE, () -> x.input(k));
            Calls.refused("run", Calls.STATE, () -> x.run(k, k));
            Calls.refused("beat", Calls.STATE, () -> x.beat(k));
            Calls.refused("rounds", Calls.STATE, () -> x.rounds(k));
            Calls.refused("core", Calls.STATE, () -> x.core(k, k));
            Calls.refused("ready", Calls.STATE, () -> x.ready(k, k));
            Calls.refused("word", Calls.STATE, () -> x.word(k, k));
            Calls.refused("output", Calls.STATE, () -> x.output(k));
            Calls.refused("about", Calls.STATE, () -> x.about(k));
        }
        Calls.refused("outcome", Calls.STATE, x::outcome);
        Calls.refused("begin", Calls.STATE, () -> {
            x.begin();
            return 0;
        });
    }

    /** Without the processor that is told ahead of what else is wrong. */
    private static void processors(LinkedCores x) {
        boolean[] there = new boolean[6];
        for (int p = 0; p < 6; p++) {
            int k = p;
            there[p] = Calls.of(() -> x.core(k, 7)) != Calls.ELEMENT;
        }
        for (int p : new int[] {Integer.MIN_VALUE, -1, 0, 1, 4, 5, 6, Integer.MAX_VALUE}) {
            if (p < 0 || p > 5 || !there[p]) {
                noProcessor(x, p, 0);
                noProcessor(x, p, -1);
            }
        }
    }

    private static void noProcessor(LinkedCores x, int p, int k) {
        Calls.refused("processor of " + p, Calls.ELEMENT, () -> x.processor(p, k));
        Calls.refused("code of " + p, Calls.ELEMENT, () -> x.code(p, k));
        Calls.refused("instruction of " + p, Calls.ELEMENT, () -> x.instruction(p, k, k));
        Calls.refused("run of " + p, Calls.ELEMENT, () -> x.run(p, k));
        Calls.refused("core of " + p, Calls.ELEMENT, () -> x.core(p, k));
        Calls.refused("ready of " + p, Calls.ELEMENT, () -> x.ready(p, k));
        Calls.refused("word of " + p, Calls.ELEMENT, () -> x.word(p, k));
    }

    private static int[] beyond(int first) {
        return new int[] {OUTSIDE[0], OUTSIDE[2], first, Integer.MAX_VALUE};
    }

    private static void parts(LinkedCores x) {
        int bytes = x.processor(0, 0);
        int words = x.processor(0, 1) + 16;
        int ready = x.core(0, 9) + x.core(0, 10);
        for (int what : beyond(4)) {
            Calls.refused("processor 0, " + what, Calls.ARGUMENT, () -> x.processor(0, what));
        }
        for (int k : beyond(bytes)) {
            Calls.refused("code 0, " + k, Calls.INDEX, () -> x.code(0, k));
            Calls.refused("instruction 0, " + k, Calls.INDEX, () -> x.instruction(0, k, 0));
            Calls.refused("instruction 0, and a wrong part", Calls.INDEX, () -> x.instruction(0, k, 3));
        }
        for (int what : beyond(3)) {
            Calls.refused("instruction 0, 0, " + what, Calls.ARGUMENT, () -> x.instruction(0, bytes - 1, what));
        }
        for (int what : beyond(13)) {
            Calls.refused("core 0, " + what, Calls.ARGUMENT, () -> x.core(0, what));
        }
        for (int i : beyond(ready)) {
            Calls.refused("ready 0, " + i, Calls.INDEX, () -> x.ready(0, i));
        }
        for (int address : beyond(words)) {
            Calls.refused("word 0, " + address, Calls.INDEX, () -> x.word(0, address));
        }
    }

    private static void machine(LinkedCores x) {
        int links = x.about(0);
        int outputs = x.about(2);
        for (int l : beyond(links)) {
            Calls.refused("link " + l, Calls.INDEX, () -> x.link(l, 0));
            Calls.refused("link, and a wrong part", Calls.INDEX, () -> x.link(l, 6));
        }
        for (int what : beyond(6)) {
            Calls.refused("link 0, " + what, links == 0 ? Calls.INDEX : Calls.ARGUMENT, () -> x.link(0, what));
        }
        for (int n : beyond(5001)) {
            Calls.refused("run 0, " + n, Calls.ARGUMENT, () -> x.run(0, n));
            Calls.refused("rounds " + n, Calls.ARGUMENT, () -> x.rounds(n));
        }
        for (int n : beyond(1001)) {
            Calls.refused("beat " + n, Calls.ARGUMENT, () -> x.beat(n));
        }
        for (int i : beyond(outputs)) {
            Calls.refused("output " + i, Calls.INDEX, () -> x.output(i));
        }
        for (int what : beyond(7)) {
            Calls.refused("about " + what, Calls.ARGUMENT, () -> x.about(what));
        }
    }

    /** The 200th input is taken up, the 201st refused; also when some were taken. */
    private static void inputs() {
        LinkedCores x = Calls.good("INT x:\nSEQ i = 0 FOR 201\n  SEQ\n    keys ? x\n    screen ! x");
        for (int k = 1; k <= 199; k++) {
            Calls.due("input", x.input(1000 + k), k);
        }
        Calls.due("the 200th", x.input(1200), 200);
        Calls.refused("the 201st", Calls.UNSUPPORTED, () -> x.input(1201));
        Calls.due("none was taken", x.about(1), 0);
        x.rounds(5000);
        Calls.due("all were taken", x.about(1) + " " + x.about(2) + " " + x.outcome(), "200 200 2");
        Calls.refused("though it waits for one", Calls.UNSUPPORTED, () -> x.input(1201));
        Calls.due("it still waits", x.outcome() + " " + x.about(1), "2 200");
        Calls.due("the last one", x.output(199), 1200);
    }

    /** "IllegalStateException if there is no program" stands ahead of "if there were 200". */
    private static void inputsOfAProgramThatIsGone() {
        LinkedCores x = Calls.good("SKIP");
        for (int k = 0; k < 200; k++) {
            x.input(k);
        }
        Calls.refused("201", Calls.UNSUPPORTED, () -> x.input(0));
        x.compile();
        Calls.refused("no program", Calls.STATE, () -> x.input(0));
        Calls.write(x, "SKIP");
        x.compile();
        Calls.due("a new program has had none", x.input(7), 1);
    }

    /** The first 1000 are kept; there are more. */
    private static void outputs() {
        LinkedCores x = Calls.good("SEQ i = 0 FOR 1001\n  screen ! i");
        for (int k = 0; k < 20 && x.about(2) < 900; k++) {
            x.run(0, 1000);
        }
        for (int k = 0; k < 220 && x.about(2) < 999; k++) {
            x.run(0, 8);
        }
        Calls.due("999", x.output(998), 998);
        Calls.refused("999 of 999", Calls.INDEX, () -> x.output(999));
        Calls.till(x, 0, () -> x.about(2) >= 1000);
        Calls.due("1000", x.output(999), 999);
        Calls.refused("1000 of 1000", Calls.INDEX, () -> x.output(1000));
        x.run(0, 5000);
        Calls.due("1001", x.about(2) + " " + x.outcome(), "1001 1");
        Calls.refused("1000 of 1001", Calls.INDEX, () -> x.output(1000));
        Calls.due("the last one that is kept", x.output(999), 999);
    }
}
