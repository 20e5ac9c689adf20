/** README.md's examples, call by call. */
public final class ReadmeTest {
    private static final String LINKED = """
            LINK l FROM 1 TO 0 :
            PLACED PAR
              PROCESSOR 0
                INT v:
                SEQ
                  l ? v
                  screen ! v
              PROCESSOR 1
                INT k:
                SEQ
                  k := 300
                  l ! k
            """;

    public static void main(String[] args) {
        first();
        linked();
        notItsOwn();
        Calls.close();
    }

    private static void put(LinkedCores x, String text) {
        for (char sign : text.toCharArray()) {
            x.put(sign);
        }
    }

    private static void first() {
        LinkedCores x = new LinkedCores();
        put(x, "screen ! 6 * 7\n");
        Calls.due("compile", x.compile(), 1);
        Calls.due("rounds", x.rounds(5000), 8);
        Calls.due("outcome", x.outcome(), 1);
        Calls.due("output", x.output(0), 42);
        put(x, "INT a:\na := b\n");
        Calls.due("compile with a fault", x.compile(), LinkedCores.NONE);
        Calls.refused("no program", Calls.STATE, x::outcome);
        Calls.due("kind", x.fault(0), 3);
        Calls.due("line", x.fault(1), 1);
        Calls.due("place", x.fault(2), 5);
    }

    private static void linked() {
        LinkedCores x = new LinkedCores();
        put(x, LINKED);
        Calls.due("compile", x.compile(), 2);
        String beginning = Calls.seen(x);
        Calls.due("processor 1 sends", x.run(1, 100), 12);
        Calls.due("the word", x.link(0, 5), 300);
        Calls.due("three bytes", x.beat(6), 6);
        Calls.due("they came", x.link(0, 2), 3);
        Calls.due("the fourth one", x.beat(2), 1);
        Calls.due("processor 0 takes it", x.run(0, 100), 14);
        Calls.due("output", x.output(0), 300);
        Calls.due("the fourth acknowledgement", x.beat(1), 1);
        Calls.due("processor 1 is done", x.rounds(100), 2);
        Calls.due("outcome", x.outcome(), 1);
        x.begin();
        Calls.due("the beginning", Calls.seen(x), beginning);
    }

    private static void notItsOwn() {
        Calls.fault(LINKED.replace("k := 300", "keys ? k"), 5, 10, LinkedCores.NONE);
    }
}
