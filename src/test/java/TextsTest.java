/** Promises 1 to 3, and of 4 and 5 what is not in FaultsTest. */
public final class TextsTest {
    public static void main(String[] args) {
        anEmptyObject();
        put();
        end();
        compile();
        fault();
        Calls.close();
    }

    private static void anEmptyObject() {
        LinkedCores x = new LinkedCores();
        Calls.due("NONE", LinkedCores.NONE, -1);
        Calls.due("no signs", x.put(0), 0);
        for (int what = 0; what < 3; what++) {
            Calls.due("no fault yet " + what, x.fault(what), what == 0 ? 0 : -1);
        }
        noProgram(x);
    }

    private static void noProgram(LinkedCores x) {
        int s = Calls.STATE;
        Calls.due("processor", Calls.of(() -> x.processor(9, 9)), s);
        Calls.due("code", Calls.of(() -> x.code(9, -1)), s);
        Calls.due("instruction", Calls.of(() -> x.instruction(9, -1, 9)), s);
        Calls.due("link", Calls.of(() -> x.link(-1, 9)), s);
        Calls.due("begin", Calls.of(() -> {
            x.begin();
            return 0;
        }), s);
        Calls.due("input", Calls.of(() -> x.input(1)), s);
        Calls.due("run", Calls.of(() -> x.run(9, -1)), s);
        Calls.due("beat", Calls.of(() -> x.beat(-1)), s);
        Calls.due("rounds", Calls.of(() -> x.rounds(-1)), s);
        Calls.due("outcome", Calls.of(x::outcome), s);
        Calls.due("core", Calls.of(() -> x.core(9, 99)), s);
        Calls.due("ready", Calls.of(() -> x.ready(9, -1)), s);
        Calls.due("word", Calls.of(() -> x.word(9, -1)), s);
        Calls.due("output", Calls.of(() -> x.output(-1)), s);
        Calls.due("about", Calls.of(() -> x.about(99)), s);
    }

    private static void put() {
        LinkedCores x = new LinkedCores();
        Calls.due("four", x.put('a' | 'b' << 8 | 'c' << 16 | 'd' << 24), 4);
        Calls.due("zeros are left out", x.put('a' << 8 | '\n' << 24), 6);
        Calls.due("the edges", x.put(32 | 126 << 8), 8);
        int[] none = {1, 9, 11, 13, 31, 127, 128, 255};
        for (int sign : none) {
            for (int k = 0; k < 4; k++) {
                int signs = sign << 8 * k | (k == 0 ? 'x' << 8 : 'x');
                Calls.due("sign " + sign + " at " + k, Calls.of(() -> x.put(signs)), Calls.ARGUMENT);
            }
        }
        Calls.due("nothing changed", x.put(0), 8);
    }

    private static int shorten(LinkedCores x, int n) {
        x.end(n);
        return 0;
    }

    private static void end() {
        LinkedCores x = new LinkedCores();
        Calls.write(x, "SKIP;;;");
        Calls.due("below", Calls.of(() -> shorten(x, -1)), Calls.ARGUMENT);
        Calls.due("above", Calls.of(() -> shorten(x, 8)), Calls.ARGUMENT);
        Calls.due("unchanged", x.put(0), 7);
        x.end(7);
        x.end(4);
        Calls.due("four are left", x.put(0), 4);
        Calls.due("SKIP alone", x.compile(), 1);
        Calls.due("empty then", Calls.of(() -> shorten(x, 1)), Calls.ARGUMENT);
        x.end(0);
    }

    private static void compile() {
        LinkedCores x = new LinkedCores();
        Calls.write(x, "SKIP");
        Calls.due("one processor", x.compile(), 1);
        Calls.due("its code", Calls.listing(x, 0, 0), "DONE");
        x.rounds(9);
        Calls.due("done", x.outcome(), 1);
        Calls.due("an empty text", x.compile(), -1);
        noProgram(x);
        Calls.due("1 at the text's end", x.fault(0) + " " + x.fault(1) + " " + x.fault(2), "1 -1 -1");
        Calls.write(x, "PLACED PAR\n  PROCESSOR 5\n    SKIP\n  PROCESSOR 0\n    STOP\n  PROCESSOR 3\n    SKIP\n");
        Calls.due("three processors", x.compile(), 3);
        Calls.due("no fault now", x.fault(0) + " " + x.fault(1) + " " + x.fault(2), "0 -1 -1");
        Calls.due("at its beginning", x.outcome(), 0);
        Calls.write(x, "INT x:\nx := y");
        Calls.due("a fault", x.compile(), -1);
        Calls.due("the one before is gone", Calls.of(x::outcome), Calls.STATE);
    }

    private static void fault() {
        LinkedCores x = Calls.object("SEQ\n  x := 1");
        Calls.due("kind", x.fault(0), 3);
        Calls.due("line", x.fault(1), 1);
        Calls.due("place", x.fault(2), 2);
        Calls.due("below", Calls.of(() -> x.fault(-1)), Calls.ARGUMENT);
        Calls.due("above", Calls.of(() -> x.fault(3)), Calls.ARGUMENT);
    }
}
