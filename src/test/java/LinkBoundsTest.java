/** Terms 6 and promises 9, 10, 13 to 15, 19 and 20: bytes and acknowledgements one by one, the OUTCOME, the counts. */
public final class LinkBoundsTest {
    private static final int MAX = 2147483647;
    private static final int MIN = -MAX - 1;

    public static void main(String[] args) {
        words();
        takerWaits();
        takerComesLater();
        takerComesAtEachBeat();
        takerInAlt();
        altBetween();
        altThatGoesElsewhere();
        wordAfterWord();
        inOrder();
        bothWays();
        readyAtOnce();
        highByABeat();
        absent();
        beats();
        rounds();
        outcomes();
        errorsFirst();
        counts();
        begins();
        linkParts();
        Calls.close();
    }

    private static final String SENDER = "  PROCESSOR 1\n    INT n:\n    SEQ\n      l ! %d\n      n := 5\n";

    private static LinkedCores pair(String taker, int value) {
        return Calls.good("LINK l FROM 1 TO 0:\nPLACED PAR\n  PROCESSOR 0\n    INT x:\n" + taker + String.format(SENDER, value));
    }

    /** Bytes that came, an acknowledgement due, the sender waits, the word. */
    private static String state(LinkedCores x, int l) {
        return x.link(l, 2) + " " + x.link(l, 3) + " " + x.link(l, 4) + " " + x.link(l, 5);
    }

    /** Any word comes whole. */
    private static void words() {
        for (int value : new int[] {MIN, -256, -1, 0, 1, 255, 256, 65535, 65536, 16777216, 305419896, MAX}) {
            Calls.finish("LINK l FROM 1 TO 0:\nLINK m FROM 0 TO 1:\nPLACED PAR\n  PROCESSOR 0\n    INT x:\n    SEQ\n      keys ? x\n      m ! x\n      l ? x\n"
                + "      screen ! x\n  PROCESSOR 1\n    INT y:\n    SEQ\n      m ? y\n      l ! y", 1, "" + value, value);
        }
    }

    /** The taker waits: the fourth byte is taken at the beat at which it comes. */
    private static void takerWaits() {
        LinkedCores x = pair("    l ? x\n", 7);
        int w = x.processor(0, 3);
        int v = x.processor(1, 3);
        x.run(0, 5000);
        Calls.due("it waits at the link", x.word(0, 0) + " " + x.word(0, w - 2) + " " + x.word(0, w - 3), (2 * w + 1) + " " + (w + 1) + " 0");
        Calls.due("empty", state(x, 0), "0 0 0 0");
        Calls.due("nothing goes", x.beat(3) + " " + x.outcome(), "0 0");
        x.run(1, 5000);
        Calls.due("the sender waits", x.word(1, 0) + " " + x.word(1, v - 2) + " " + x.core(1, 6), (2 * v + 1) + " 7 -1");
        String[] due = {"1 1 1 7", "1 0 1 7", "2 1 1 7", "2 0 1 7", "3 1 1 7", "3 0 1 7"};
        Calls.due("a byte may go", state(x, 0), "0 0 1 7");
        for (String one : due) {
            Calls.due("something went", x.beat(1), 1);
            Calls.due("beat", state(x, 0), one);
            Calls.due("both wait", x.core(0, 6) + " " + x.core(1, 6) + " " + x.word(0, w + 1), "-1 -1 0");
        }
        Calls.due("the fourth byte", x.beat(1), 1);
        Calls.due("it is taken, and its acknowledgement is due", state(x, 0), "0 1 1 7");
        Calls.due("the taker runs", x.core(0, 6) + " " + x.word(0, w + 1) + " " + x.word(0, 0), (2 * w + 1) + " 7 -1");
        Calls.due("the sender doesn't", x.core(1, 6) + " " + x.word(1, 0), "-1 " + (2 * v + 1));
        Calls.due("the fourth one's acknowledgement", x.beat(1), 1);
        Calls.due("empty", state(x, 0), "0 0 0 0");
        Calls.due("the sender runs", x.core(1, 6) + " " + x.word(1, 0), (2 * v + 1) + " -1");
        Calls.due("nothing more", x.beat(9) + " " + x.about(6) + " " + x.about(5), "0 8 20");
    }

    /** The taker comes later: IN takes the word and goes on, and only then the acknowledgement is due. */
    private static void takerComesLater() {
        LinkedCores x = pair("    SEQ\n      l ? x\n      screen ! x\n", -2);
        int w = x.processor(0, 3);
        x.run(1, 5000);
        Calls.due("seven packets", x.beat(1000), 7);
        Calls.due("four bytes came", state(x, 0), "4 0 1 -2");
        Calls.due("nothing goes", x.beat(1), 0);
        Calls.till(x, 0, () -> x.link(0, 3) == 1);
        Calls.due("it goes on", x.core(0, 6) + " " + x.word(0, w + 1) + " " + x.word(0, 0), (2 * w + 1) + " -2 -1");
        Calls.due("taken", state(x, 0), "0 1 1 -2");
        Calls.due("the sender waits", x.core(1, 6), -1);
        Calls.due("one more", x.beat(1000), 1);
        Calls.due("empty", state(x, 0), "0 0 0 0");
        Calls.due("the sender goes on", x.core(1, 6), 2 * x.processor(1, 3) + 1);
    }

    /** Whenever IN comes: with less than four bytes it waits. */
    private static void takerComesAtEachBeat() {
        for (int beats = 0; beats <= 9; beats++) {
            LinkedCores x = pair("    SEQ\n      l ? x\n      screen ! x\n", 9);
            x.run(1, 5000);
            Calls.due("packets", x.beat(beats), Math.min(beats, 7));
            x.run(0, 5000);
            boolean whole = beats >= 7;
            Calls.due("IN at beat " + beats, x.core(0, 8) + " " + Calls.outputs(x), whole ? "1 9" : "0 ");
            Calls.due("its channel", x.word(0, 0) == -1 ? 1 : 0, whole ? 1 : 0);
            Calls.due("the rest", x.beat(1000), 8 - Math.min(beats, 7));
            x.run(0, 5000);
            x.run(1, 5000);
            Calls.due("done", x.outcome() + " " + Calls.outputs(x) + " " + x.about(6), "1 9 8");
        }
    }

    /** A process in ALT is ready when the fourth byte has come; the word stays till IN. */
    private static void takerInAlt() {
        LinkedCores x = pair("    CHAN c:\n    ALT\n      c ? x\n        SKIP\n      l ? x\n        screen ! x\n", 3);
        int w = x.processor(0, 3);
        int me = 2 * w + 1;
        x.run(0, 5000);
        x.run(1, 5000);
        Calls.due("in ALT", x.word(0, w - 3) + " " + x.word(0, 0), "2 " + me);
        for (int k = 1; k <= 6; k++) {
            x.beat(1);
            Calls.due("not yet", x.word(0, w - 3) + " " + x.core(0, 6) + " " + x.core(0, 10), "2 -1 0");
        }
        x.beat(1);
        Calls.due("ready", x.word(0, w - 3) + " " + x.core(0, 6) + " " + x.word(0, 0), "3 " + me + " " + me);
        Calls.due("not taken", state(x, 0), "4 0 1 3");
        Calls.due("nothing goes", x.beat(5) + " " + x.core(0, 10), "0 0");
        Calls.till(x, 0, () -> x.word(0, 0) != me);
        Calls.due("DISC", x.word(0, 0) + " " + state(x, 0), "-1 4 0 1 3");
        Calls.till(x, 0, () -> x.link(0, 3) == 1);
        Calls.due("IN", state(x, 0) + " " + x.word(0, w + 1), "0 1 1 3 3");
        x.run(0, 5000);
        Calls.due("shown", Calls.outputs(x) + " " + x.beat(9), "3 1");
    }

    /** The fourth byte comes between ENBC and ALTWT, or ahead of ENBC. */
    private static void altBetween() {
        String alt = "    CHAN c:\n    ALT\n      c ? x\n        SKIP\n      l ? x\n        screen ! x\n";
        LinkedCores x = pair(alt, 4);
        int w = x.processor(0, 3);
        int me = 2 * w + 1;
        x.run(1, 5000);
        x.beat(6);
        Calls.till(x, 0, () -> x.word(0, 0) == me);
        Calls.due("1", x.word(0, w - 3), 1);
        x.beat(1);
        Calls.due("3, and it runs once", x.word(0, w - 3) + " " + x.core(0, 6) + " " + x.core(0, 10), "3 " + me + " 0");
        x.run(0, 5000);
        Calls.due("taken", Calls.outputs(x), "4");
        LinkedCores y = pair(alt, 5);
        y.run(1, 5000);
        y.beat(7);
        Calls.till(y, 0, () -> y.word(0, w - 3) == 3);
        Calls.due("as of one that sends", y.word(0, 0), -1);
        y.run(0, 5000);
        Calls.due("taken", Calls.outputs(y), "5");
        LinkedCores z = pair(alt, 6);
        z.run(1, 5000);
        z.beat(6);
        z.run(0, 5000);
        Calls.due("three bytes are none", z.word(0, w - 3) + " " + z.word(0, 0) + " " + z.core(0, 6), "2 " + me + " -1");
    }

    /** A guard that isn't chosen: its channel is free again, and the word is there for a later IN. */
    private static void altThatGoesElsewhere() {
        for (int beats : new int[] {0, 3, 6, 7, 9}) {
            LinkedCores x = pair("    SEQ\n      ALT\n        FALSE & l ? x\n          SKIP\n        TRUE & SKIP\n          screen ! 1\n        l ? x\n          screen ! 2\n"
                + "      l ? x\n      screen ! x\n", 8);
            x.run(1, 5000);
            x.beat(beats);
            Calls.till(x, 0, () -> x.about(2) == 1);
            Calls.due("not enabled any more", x.word(0, 0) + " " + x.output(0), "-1 1");
            x.run(0, 5000);
            x.beat(1000);
            x.run(0, 5000);
            x.run(1, 5000);
            Calls.due("taken then", Calls.outputs(x) + " " + x.outcome(), "1 8 1");
        }
    }

    private static void wordAfterWord() {
        LinkedCores x = Calls.good("LINK l FROM 1 TO 0:\nPLACED PAR\n  PROCESSOR 0\n    INT x:\n    SEQ i = 0 FOR 3\n      SEQ\n        l ? x\n        screen ! x\n"
            + "  PROCESSOR 1\n    SEQ i = 0 FOR 3\n      l ! i - 1");
        for (int k = 0; k < 3; k++) {
            x.run(0, 5000);
            x.run(1, 5000);
            Calls.due("a word", state(x, 0), "0 0 1 " + (k - 1));
            Calls.due("eight packets", x.beat(1000), 8);
        }
        x.run(0, 5000);
        x.run(1, 5000);
        Calls.due("all", Calls.outputs(x) + " " + x.outcome() + " " + x.about(6) + " " + x.about(5), "-1 0 1 1 24 3000");
    }

    /** Links go in their order within a beat: who becomes ready by the first one is ahead. */
    private static void inOrder() {
        for (int turned = 0; turned < 2; turned++) {
            String first = turned == 0 ? "l" : "m";
            String second = turned == 0 ? "m" : "l";
            LinkedCores x = Calls.good("LINK " + first + " FROM 1 TO 0:\nLINK " + second + " FROM 1 TO 0:\nPLACED PAR\n  PROCESSOR 0\n    INT x, y:\n    PAR\n      l ? x\n      m ? y\n"
                + "  PROCESSOR 1\n    PAR\n      l ! 1\n      m ! 2");
            x.run(0, 5000);
            x.run(1, 5000);
            int w = x.processor(0, 3);
            int one = 2 * (w - 4) + 1;
            int two = 2 * (w - 8) + 1;
            Calls.due("two packets a beat", x.beat(6), 12);
            x.beat(1);
            Calls.due("in order", x.core(0, 6) + " " + x.ready(0, 0), turned == 0 ? one + " " + two : two + " " + one);
            int v = x.processor(1, 3);
            x.beat(1);
            Calls.due("the senders", x.core(1, 6) + " " + x.ready(1, 0),
                (2 * (v - (turned == 0 ? 4 : 8)) + 1) + " " + (2 * (v - (turned == 0 ? 8 : 4)) + 1));
        }
    }

    private static void bothWays() {
        LinkedCores x = Calls.good("LINK l FROM 0 TO 1:\nLINK m FROM 1 TO 0:\nPLACED PAR\n  PROCESSOR 0\n    INT x:\n    SEQ\n      l ! 5\n      m ? x\n      screen ! x\n"
            + "  PROCESSOR 1\n    INT y:\n    SEQ\n      l ? y\n      m ! y + 1");
        x.rounds(5000);
        Calls.due("there and back", x.outcome() + " " + Calls.outputs(x) + " " + x.about(6), "1 6 16");
        // six in a ring
        StringBuilder ring = new StringBuilder();
        for (int p = 0; p < 6; p++) {
            ring.append("LINK l").append(p).append(" FROM ").append(p).append(" TO ").append((p + 1) % 6).append(":\n");
        }
        ring.append("PLACED PAR\n  PROCESSOR 0\n    INT x:\n    SEQ\n      l0 ! 1\n      l5 ? x\n      screen ! x\n");
        for (int p = 1; p < 6; p++) {
            ring.append("  PROCESSOR ").append(p).append("\n    INT x:\n    SEQ\n      l").append(p - 1).append(" ? x\n      l").append(p).append(" ! x * 3\n");
        }
        LinkedCores y = Calls.good(ring.toString());
        y.rounds(5000);
        Calls.due("a ring", y.outcome() + " " + Calls.outputs(y) + " " + y.about(6), "1 243 48");
    }

    /** One that becomes ready when none runs runs at once; when one runs it goes to the end of its row. */
    private static void readyAtOnce() {
        LinkedCores x = Calls.good("LINK l FROM 1 TO 0:\nPLACED PAR\n  PROCESSOR 0\n    INT x:\n    PAR\n      l ? x\n      WHILE TRUE\n        SKIP\n  PROCESSOR 1\n    l ! 5");
        x.run(0, 100);
        x.run(1, 100);
        int w = x.processor(0, 3);
        int loop = 2 * (w - 8) + 1;
        Calls.due("the other one runs", x.core(0, 6) + " " + x.core(0, 10), loop + " 0");
        int i = x.core(0, 3);
        int since = x.core(0, 12);
        x.beat(7);
        Calls.due("it goes on, one is ready", x.core(0, 6) + " " + x.core(0, 3) + " " + x.core(0, 12) + " " + x.core(0, 10) + " " + x.ready(0, 0),
            loop + " " + i + " " + since + " 1 " + (2 * (w - 4) + 1));
    }

    /** HIGH ones that become ready by a beat run behind it, and LOW ones that became ready by it come later. */
    private static void highByABeat() {
        String text = "LINK l FROM 1 TO 0:\nLINK m FROM 1 TO 0:\nPLACED PAR\n  PROCESSOR 0\n    INT x, y:\n    PRI PAR\n      m ? x\n      l ? y\n"
            + "  PROCESSOR 1\n    PAR\n      l ! 1\n      m ! 2";
        LinkedCores x = Calls.good(text);
        x.run(0, 5000);
        x.run(1, 5000);
        x.beat(7);
        int w = x.processor(0, 3);
        Calls.due("HIGH runs, LOW is ready", x.core(0, 6) + " " + x.core(0, 9) + " " + x.core(0, 10) + " " + x.ready(0, 0),
            2 * (w - 4) + " 0 1 " + (2 * (w - 8) + 1));
        x.run(0, 5000);
        x.beat(5);
        x.run(1, 5000);
        Calls.due("done", x.outcome() + " " + x.word(0, w + 1) + " " + x.word(0, w + 2), "1 2 1");
    }

    /** A link whose FROM or TO is no processor. */
    private static void absent() {
        LinkedCores x = Calls.good("LINK l FROM 0 TO 5:\nLINK m FROM 5 TO 0:\nPLACED PAR\n  PROCESSOR 0\n    INT x:\n    PAR\n      l ! 6\n      m ? x");
        x.run(0, 5000);
        Calls.due("seven packets", x.beat(1000) + " " + x.outcome(), "7 2");
        Calls.due("the word isn't taken", state(x, 0) + " " + state(x, 1), "4 0 1 6 0 0 0 0");
        Calls.due("their ends", x.link(0, 0) + " " + x.link(0, 1) + " " + x.link(1, 0) + " " + x.link(1, 1), "0 5 5 0");
        Calls.refused("no processor 5", Calls.ELEMENT, () -> x.core(5, 0));
        Calls.due("rounds", x.rounds(5000), 0);
    }

    private static void beats() {
        LinkedCores x = Calls.good("SKIP");
        Calls.due("0", x.beat(0) + " " + x.about(5), "0 0");
        Calls.due("1", x.beat(1) + " " + x.about(5), "0 1");
        Calls.due("1000", x.beat(1000) + " " + x.about(5) + " " + x.about(6), "0 1001 0");
        for (int n : new int[] {MIN, -1, 1001, MAX}) {
            Calls.refused("beat " + n, Calls.ARGUMENT, () -> x.beat(n));
        }
        Calls.due("no more", x.about(5), 1001);
        Calls.due("a beat does no byte", x.core(0, 11), 0);
    }

    private static void rounds() {
        LinkedCores x = Calls.good("WHILE TRUE\n  SKIP");
        Calls.due("0", x.rounds(0) + " " + x.about(5) + " " + x.core(0, 11), "0 0 0");
        Calls.due("1", x.rounds(1) + " " + x.about(5) + " " + x.core(0, 11), "1 1 1");
        Calls.due("5000", x.rounds(5000) + " " + x.about(5) + " " + x.core(0, 11), "5000 5001 5001");
        for (int n : new int[] {MIN, -1, 5001, MAX}) {
            Calls.refused("rounds " + n, Calls.ARGUMENT, () -> x.rounds(n));
        }
        Calls.due("no more", x.about(5) + " " + x.core(0, 11), "5001 5001");
        // till the OUTCOME is not 0: the round that does it counts, none behind
        for (int n = 0; n <= 4; n++) {
            LinkedCores y = Calls.good("SKIP");
            Calls.due("of " + n, y.rounds(n) + " " + y.outcome() + " " + y.about(5), Math.min(n, 2) + " " + (n >= 2 ? 1 : 0) + " " + Math.min(n, 2));
            Calls.due("then", y.rounds(5000) + " " + y.rounds(5000), 2 - Math.min(n, 2) + " 0");
        }
        LinkedCores z = Calls.good("STOP");
        Calls.due("2", z.rounds(5000) + " " + z.outcome(), "2 2");
        LinkedCores e = Calls.good("IF\n  FALSE\n    SKIP");
        Calls.due("3", e.rounds(5000) + " " + e.outcome() + " " + e.rounds(1), "4 3 0");
        // by numbers, a byte each, then a beat
        LinkedCores p = Calls.good("LINK l FROM 5 TO 0:\nPLACED PAR\n  PROCESSOR 5\n    l ! 1\n  PROCESSOR 0\n    INT x:\n    l ? x\n  PROCESSOR 3\n    SKIP");
        // LDC 1, LDC 0, then OUT in two bytes; the beat of the fourth round carries the first byte
        p.rounds(3);
        Calls.due("not yet", p.about(6) + " " + p.link(0, 4), "0 0");
        p.rounds(1);
        Calls.due("with the round of its OUT", p.about(6) + " " + p.link(0, 2) + " " + p.link(0, 3), "1 1 1");
        Calls.due("one that has ended does none", p.core(3, 11) + " " + p.core(5, 11) + " " + p.core(0, 11), "2 4 4");
    }

    private static void outcomes() {
        LinkedCores x = Calls.good("LINK l FROM 1 TO 0:\nPLACED PAR\n  PROCESSOR 0\n    INT x:\n    SEQ\n      l ? x\n      keys ? x\n  PROCESSOR 1\n    l ! 4");
        Calls.due("they run", x.outcome(), 0);
        x.run(0, 5000);
        Calls.due("one runs", x.outcome(), 0);
        x.run(1, 5000);
        for (int k = 0; k < 6; k++) {
            Calls.due("none runs, and a packet may go", x.core(0, 6) + " " + x.core(1, 6) + " " + x.outcome(), "-1 -1 0");
            x.beat(1);
        }
        Calls.due("the fourth byte", x.outcome(), 0);
        x.beat(2);
        x.run(1, 5000);
        Calls.due("one is done, one runs", x.outcome(), 0);
        x.run(0, 5000);
        Calls.due("it waits for a key", x.outcome(), 2);
        x.input(1);
        Calls.due("it runs again", x.outcome(), 0);
        x.run(0, 5000);
        Calls.due("all are done", x.outcome(), 1);
        LinkedCores y = Calls.good("LINK l FROM 1 TO 0:\nPLACED PAR\n  PROCESSOR 0\n    STOP\n  PROCESSOR 1\n    l ! 4");
        y.run(0, 5000);
        y.run(1, 5000);
        y.beat(6);
        Calls.due("the fourth byte may go", y.outcome(), 0);
        y.beat(1);
        Calls.due("it came, and nobody takes it", y.outcome(), 2);
        LinkedCores six = Calls.good("PLACED PAR\n  PROCESSOR 0\n    SKIP\n  PROCESSOR 1\n    SKIP\n  PROCESSOR 2\n    SKIP\n  PROCESSOR 3\n    SKIP\n  PROCESSOR 4\n    SKIP\n"
            + "  PROCESSOR 5\n    SKIP");
        for (int p = 0; p < 6; p++) {
            Calls.due("not all", six.outcome(), 0);
            six.run(p, 2);
        }
        Calls.due("all six", six.outcome(), 1);
    }

    /** 3 ahead of 1, 2 and 0. */
    private static void errorsFirst() {
        LinkedCores x = Calls.good("LINK l FROM 0 TO 1:\nPLACED PAR\n  PROCESSOR 5\n    IF\n      FALSE\n        SKIP\n  PROCESSOR 0\n    l ! 1\n  PROCESSOR 1\n    WHILE TRUE\n      SKIP");
        x.run(5, 3);
        Calls.due("not yet", x.outcome(), 0);
        x.run(5, 1);
        Calls.due("others run", x.outcome() + " " + x.rounds(9), "3 0");
        x.run(0, 5000);
        Calls.due("a packet may go", x.outcome() + " " + x.beat(1), "3 1");
        LinkedCores y = Calls.good("INT x:\nPAR\n  x := 1 / 0\n  SKIP");
        y.run(0, 5000);
        Calls.due("none runs", y.outcome() + " " + y.core(0, 7) + " " + y.core(0, 8), "3 1 0");
        y.begin();
        Calls.due("gone with begin()", y.outcome() + " " + y.core(0, 7), "0 0");
    }

    /** about: what is counted, at its edges. */
    private static void counts() {
        LinkedCores x = Calls.good("SKIP");
        StringBuilder all = new StringBuilder();
        for (int what = 0; what < 7; what++) {
            all.append(x.about(what)).append(' ');
        }
        Calls.due("nothing", all.toString(), "0 0 0 0 0 0 0 ");
        for (int what : new int[] {MIN, -1, 7, MAX}) {
            Calls.refused("about " + what, Calls.ARGUMENT, () -> x.about(what));
        }
        Calls.refused("no output", Calls.INDEX, () -> x.output(0));
        LinkedCores y = Calls.good("PROC p(VAL INT a, CHAN b)\n  INT c, d:\n  SEQ e = 0 FOR 1\n    PAR f = 0 FOR 1\n      SKIP\n:\nLINK g FROM 0 TO 1:\nPLACED PAR\n  PROCESSOR 0\n"
            + "    [3]INT h:\n    [4]CHAN i:\n    SEQ\n      screen ! 8\n      keys ? h[0]\n      screen ! 9");
        Calls.due("links, names, PROCs", y.about(0) + " " + y.about(3) + " " + y.about(4), "1 10 1");
        y.run(0, 5000);
        Calls.due("one is out", y.about(2) + " " + y.output(0), "1 8");
        Calls.refused("not two", Calls.INDEX, () -> y.output(1));
        y.input(3);
        y.run(0, 5000);
        Calls.due("two, and one input", y.about(2) + " " + y.output(1) + " " + y.about(1), "2 9 1");
        Calls.refused("not three", Calls.INDEX, () -> y.output(2));
    }

    /** begin(): as after compile(), from any state. */
    private static void begins() {
        String text = "LINK l FROM 1 TO 0:\nPLACED PAR\n  PROCESSOR 0\n    INT x:\n    PRI PAR\n      keys ? x\n      INT y:\n      SEQ\n        screen ! 70000\n        l ? y\n"
            + "        screen ! y / (y - 6)\n  PROCESSOR 1\n    SEQ\n      l ! 6\n      l ! 7";
        String fresh = Calls.seen(Calls.good(text));
        for (int steps = 0; steps <= 120; steps += 8) {
            LinkedCores x = Calls.good(text);
            x.rounds(steps / 2);
            x.input(steps);
            x.rounds(steps);
            x.begin();
            Calls.due("as at the beginning, behind " + steps, Calls.seen(x), fresh);
            x.rounds(5000);
            Calls.due("and it goes the same way", x.outcome() + " " + Calls.outputs(x) + " " + x.about(1), "3 70000 0");
        }
        beginsAside();
        LinkedCores x = Calls.good("INT x:\nSEQ\n  keys ? x\n  screen ! x");
        x.input(1);
        x.begin();
        x.rounds(5000);
        Calls.due("no inputs", x.outcome() + " " + x.about(2), "2 0");
        x.begin();
        x.begin();
        x.input(2);
        x.rounds(5000);
        Calls.due("a new one", x.outcome() + " " + Calls.outputs(x), "1 2");
        LinkedCores none = new LinkedCores();
        Calls.refused("no program", Calls.STATE, () -> {
            none.begin();
            return 0;
        });
    }

    /** begin() while HIGH ones are ready and a LOW one is put aside with its registers: byte by byte as a new one. */
    private static void beginsAside() {
        String names = "[3]INT a:\nINT x:\n";
        String two = names + "PRI PAR\n  SEQ\n    keys ? x\n    PAR\n      SKIP\n      SKIP\n  WHILE TRUE\n    a[2] := 5";
        String one = names + "PAR\n  SKIP\n  PRI PAR\n    keys ? x\n    WHILE TRUE\n      a[2] := 5";
        for (int bytes = 0; bytes < 20; bytes++) {
            LinkedCores x = Calls.good(two);
            x.run(0, 120 + bytes);
            x.input(1);
            Calls.due("HIGH", x.core(0, 6) & 1, 0);
            Calls.till(x, 0, () -> x.core(0, 9) == 1 && x.core(0, 10) == 1);
            beginsAgain(x, two);
            LinkedCores y = Calls.good(one);
            y.run(0, 120 + bytes);
            y.input(1);
            Calls.due("HIGH", (y.core(0, 6) & 1) + " " + y.core(0, 10), "0 1");
            beginsAgain(y, one);
        }
    }

    private static void beginsAgain(LinkedCores x, String text) {
        LinkedCores fresh = Calls.good(text);
        x.begin();
        for (int k = 0; k < 70; k++) {
            x.run(0, 1);
            fresh.run(0, 1);
            Calls.due("registers", x.core(0, 0) + " " + x.core(0, 2) + " " + x.core(0, 5), fresh.core(0, 0) + " " + fresh.core(0, 2) + " " + fresh.core(0, 5));
        }
        Calls.due("the same", Calls.seen(x), Calls.seen(fresh));
    }

    private static void linkParts() {
        LinkedCores x = Calls.good("LINK a FROM 5 TO 0:\nLINK b FROM 0 TO 5:\nPLACED PAR\n  PROCESSOR 0\n    SKIP");
        for (int what : new int[] {MIN, -1, 6, MAX}) {
            Calls.refused("part " + what, Calls.ARGUMENT, () -> x.link(1, what));
            Calls.refused("no link, no part", Calls.INDEX, () -> x.link(2, what));
        }
        for (int l : new int[] {MIN, -1, 2, 12, MAX}) {
            Calls.refused("link " + l, Calls.INDEX, () -> x.link(l, 0));
        }
        Calls.due("in the order of the text", x.link(0, 0) + " " + x.link(0, 1) + " " + x.link(1, 0) + " " + x.link(1, 1), "5 0 0 5");
        LinkedCores none = Calls.good("SKIP");
        Calls.refused("no link at all", Calls.INDEX, () -> none.link(0, 0));
    }
}
