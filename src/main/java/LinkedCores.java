import java.util.Arrays;
import java.util.NoSuchElementException;

/**
 * Up to six small cores joined by links, and the language of processes that they are told in.
 * The way of a text: Scanner (tokens), Parser (a tree of Nodes and Names), Layout (workspaces),
 * Uses (who may touch what), Coder (bytes), Machine (cores, links, host).
 */
public final class LinkedCores {
    public static final int NONE = -1;

    private static final int MOST_SIGNS = 3000;
    private static final int MOST_WORDS = 4000;
    private static final int MOST_BYTES = 6000;
    private static final int PROCESSORS = 6;
    private static final int MOST_RUN = 5000;
    private static final int MOST_BEATS = 1000;

    private static final int FORM = 1;
    private static final int TWICE = 2;
    private static final int UNKNOWN = 3;
    private static final int KIND = 4;
    private static final int USE = 5;
    private static final int TOO_MUCH = 6;

    /** Addresses below this one are the channels of links and host. */
    private static final int PORTS = 16;
    private static final int SCREEN = 12;
    private static final int KEYS = 13;

    private final byte[] text = new byte[MOST_SIGNS];
    private int length;
    private int faultKind;
    private int faultLine = NONE;
    private int faultPlace = NONE;
    private Coder coder;
    private Machine machine;

    public LinkedCores() {
        length = 0;
    }

    // ---- texts

    public int put(int signs) throws IllegalArgumentException, UnsupportedOperationException {
        int more = 0;
        for (int k = 0; k < 4; k++) {
            int sign = signs >>> 8 * k & 255;
            if (sign != 0 && sign != 10 && (sign < 32 || sign > 126)) {
                throw new IllegalArgumentException("no such sign");
            }
            more += sign == 0 ? 0 : 1;
        }
        if (length + more > MOST_SIGNS) {
            throw new UnsupportedOperationException("the text is full");
        }
        for (int k = 0; k < 4; k++) {
            int sign = signs >>> 8 * k & 255;
            if (sign != 0 && length < MOST_SIGNS) {
                text[length] = (byte) sign;
                length++;
            }
        }
        return length;
    }

    public void end(int n) throws IllegalArgumentException {
        if (n < 0 || n > length) {
            throw new IllegalArgumentException("no such length");
        }
        length = n;
    }

    public int compile() {
        Program program = new Program();
        machine = null;
        Scanner scanner = new Scanner(text, length);
        scanner.scan();
        new Parser(program, scanner).parse();
        length = 0;
        if (program.kind == 0) {
            new Layout().measure(program);
        }
        if (program.kind == 0) {
            new Uses(program).judge();
        }
        Machine made = program.kind == 0 ? build(program) : null;
        faultKind = program.kind;
        faultLine = program.line;
        faultPlace = program.place;
        machine = made;
        return made == null ? NONE : made.count();
    }

    public int fault(int what) throws IllegalArgumentException {
        if (what < 0 || what > 2) {
            throw new IllegalArgumentException("no such part of a fault");
        }
        return what == 0 ? faultKind : what == 1 ? faultLine : faultPlace;
    }

    // ---- the program

    public int processor(int p, int what) throws IllegalStateException, NoSuchElementException, IllegalArgumentException {
        Core core = coreOf(p);
        switch (what) {
            case 0: return core.code.length;
            case 1: return core.memory.length - PORTS;
            case 2: return core.start;
            case 3: return core.firstW;
            default: throw new IllegalArgumentException("no such part of a processor");
        }
    }

    public int code(int p, int k) throws IllegalStateException, NoSuchElementException, IndexOutOfBoundsException {
        Core core = coreOf(p);
        if (k < 0 || k >= core.code.length) {
            throw new IndexOutOfBoundsException("no such byte");
        }
        return core.code[k] & 255;
    }

    public int instruction(int p, int k, int what) throws IllegalStateException, NoSuchElementException,
            IndexOutOfBoundsException, IllegalArgumentException {
        Core core = coreOf(p);
        if (k < 0 || k >= core.code.length) {
            throw new IndexOutOfBoundsException("no such byte");
        }
        if (what < 0 || what > 2) {
            throw new IllegalArgumentException("no such part of an instruction");
        }
        return core.decode(k, what);
    }

    public int link(int l, int what) throws IllegalStateException, IndexOutOfBoundsException, IllegalArgumentException {
        Link link = loaded().linkAt(l);
        if (link == null) {
            throw new IndexOutOfBoundsException("no such link");
        }
        switch (what) {
            case 0: return link.from;
            case 1: return link.to;
            case 2: return link.taken ? 0 : link.came;
            case 3: return link.due ? 1 : 0;
            case 4: return link.sending ? 1 : 0;
            case 5: return link.value;
            default: throw new IllegalArgumentException("no such part of a link");
        }
    }

    // ---- the schedule

    public void begin() throws IllegalStateException {
        loaded().reset();
    }

    public int input(int v) throws IllegalStateException, UnsupportedOperationException {
        Machine now = loaded();
        if (now.given >= now.inputs.length) {
            throw new UnsupportedOperationException("no more inputs");
        }
        now.offer(v);
        return now.given;
    }

    public int run(int p, int n) throws IllegalStateException, NoSuchElementException, IllegalArgumentException {
        Core core = coreOf(p);
        if (n < 0 || n > MOST_RUN) {
            throw new IllegalArgumentException("no such number of bytes");
        }
        int done = 0;
        for (int k = 0; k < n && core.runs; k++) {
            core.step();
            done++;
        }
        return done;
    }

    public int beat(int n) throws IllegalStateException, IllegalArgumentException {
        Machine now = loaded();
        if (n < 0 || n > MOST_BEATS) {
            throw new IllegalArgumentException("no such number of beats");
        }
        int went = 0;
        for (int k = 0; k < n; k++) {
            went += now.pulse();
        }
        return went;
    }

    public int rounds(int n) throws IllegalStateException, IllegalArgumentException {
        Machine now = loaded();
        if (n < 0 || n > MOST_RUN) {
            throw new IllegalArgumentException("no such number of rounds");
        }
        int done = 0;
        for (int k = 0; k < n && now.result() == 0; k++) {
            now.round();
            done++;
        }
        return done;
    }

    public int outcome() throws IllegalStateException {
        return loaded().result();
    }

    // ---- what is seen

    public int core(int p, int what) throws IllegalStateException, NoSuchElementException, IllegalArgumentException {
        Core core = coreOf(p);
        if (what < 0 || what > 12) {
            throw new IllegalArgumentException("no such part of a core");
        }
        return what <= 5 || what == 12 ? core.register(what) : core.state(what);
    }

    public int ready(int p, int i) throws IllegalStateException, NoSuchElementException, IndexOutOfBoundsException {
        Core core = coreOf(p);
        if (i < 0 || i >= core.waiting || i >= core.rows.length) {
            throw new IndexOutOfBoundsException("no such process");
        }
        return core.rows[i];
    }

    public int word(int p, int address) throws IllegalStateException, NoSuchElementException, IndexOutOfBoundsException {
        Core core = coreOf(p);
        if (address < 0 || address >= core.memory.length) {
            throw new IndexOutOfBoundsException("no such word");
        }
        return core.memory[address];
    }

    public int output(int i) throws IllegalStateException, IndexOutOfBoundsException {
        Machine now = loaded();
        if (i < 0 || i >= now.shown || i >= now.outputs.length) {
            throw new IndexOutOfBoundsException("no such output");
        }
        return now.outputs[i];
    }

    public int about(int what) throws IllegalStateException, IllegalArgumentException {
        Machine now = loaded();
        switch (what) {
            case 0: return now.program.linkCount;
            case 1: return now.used;
            case 2: return now.shown;
            case 3: return now.program.names;
            case 4: return now.program.procCount;
            case 5: return now.beats;
            case 6: return now.packets;
            default: throw new IllegalArgumentException("no such number");
        }
    }

    private Machine loaded() {
        Machine now = machine;
        if (now == null) {
            throw new IllegalStateException("no program");
        }
        return now;
    }

    private Core coreOf(int p) {
        Core core = loaded().coreAt(p);
        if (core == null) {
            throw new NoSuchElementException("no such processor");
        }
        return core;
    }

    /** The coder's rows are large: they are made at the first program that gets so far, and kept. */
    private Machine build(Program program) {
        Coder now = coder;
        if (now == null) {
            now = new Coder();
            coder = now;
        }
        Machine made = new Machine(program);
        for (int p = 0; p < PROCESSORS; p++) {
            Node root = program.roots[p];
            if (root == null) {
                continue;
            }
            now.translate(program, root);
            if (now.full) {
                program.blame(TOO_MUCH, NONE, NONE);
                return null;
            }
            made.cores[p] = new Core(made, now.bytes(), now.start(), root);
        }
        made.reset();
        return made;
    }

    /** The tokens of all lines that count, read ahead: what is wrong with one is found when the parser comes there. */
    private static final class Scanner {
        static final int END = 0;
        static final int BAD = 1;
        static final int NAME = 2;
        static final int NUMBER = 3;

        static final int SEQ = 10;
        static final int PAR = 11;
        static final int PRI = 12;
        static final int ALT = 13;
        static final int IF = 14;
        static final int WHILE = 15;
        static final int SKIP = 16;
        static final int STOP = 17;
        static final int INT = 18;
        static final int CHAN = 19;
        static final int VAL = 20;
        static final int PROC = 21;
        static final int FOR = 22;
        static final int TRUE = 23;
        static final int FALSE = 24;
        static final int NOT = 25;
        static final int AND = 26;
        static final int OR = 27;
        static final int PLACED = 28;
        static final int PROCESSOR = 29;
        static final int LINK = 30;
        static final int FROM = 31;
        static final int TO = 32;
        private static final String KEYWORDS =
                "SEQ PAR PRI ALT IF WHILE SKIP STOP INT CHAN VAL PROC FOR TRUE FALSE NOT AND OR PLACED PROCESSOR LINK FROM TO ";

        static final int BECOMES = 40;
        static final int UNEQUAL = 41;
        static final int AT_MOST = 42;
        static final int AT_LEAST = 43;
        static final int SHIFT_LEFT = 44;
        static final int SHIFT_RIGHT = 45;
        static final int BIT_AND = 46;
        static final int BIT_OR = 47;
        private static final String PAIRS = ":=<><=>=<<>>/\\\\/";

        static final int SEND = 50;
        static final int TAKE = 51;
        static final int COMMA = 52;
        static final int COLON = 53;
        static final int OPEN = 54;
        static final int CLOSE = 55;
        static final int SQUARE = 56;
        static final int UNSQUARE = 57;
        static final int EQUAL = 58;
        static final int LESS = 59;
        static final int MORE = 60;
        static final int PLUS = 61;
        static final int MINUS = 62;
        static final int TIMES = 63;
        static final int OVER = 64;
        static final int REST = 65;
        static final int AMPERSAND = 66;
        private static final String SINGLES = "!?,:()[]=<>+-*/\\&";

        /** A name's signs, behind one that is none. */
        private static final String NAME_SIGNS = " abcdefghijklmnopqrstuvwxyz0123456789.";
        static final int MOST_NUMBER = 2147483647;
        private static final int MOST_LEVEL = 15;
        /** The level of a line at which nothing can stand. */
        private static final int ODD = -2;

        private final byte[] text;
        private final int length;
        private final byte[] kinds;
        private final int[] places;
        /** Of a number itself, of a name its key. */
        private final long[] values;
        private final int[] lines;
        private final byte[] levels;
        private int count;
        private int now = NONE;
        private int start;
        private int stop;
        private int at;

        /** The text's end has been reached. */
        boolean over;
        int line;
        int level;
        int token;
        int place;
        int number;
        /** A name's signs, six bits' worth each: ten of them fit, and equal names have equal keys. */
        long key;

        /** Each token has a sign of the text, each line's end the one behind it, but for the last one's. */
        Scanner(byte[] text, int length) {
            int most = Math.max(0, length) + 1;
            this.text = text;
            this.length = length;
            this.kinds = new byte[most];
            this.places = new int[most];
            this.values = new long[most];
            this.lines = new int[most];
            this.levels = new byte[most];
        }

        // what the parser sees: the token that is there

        void next() {
            if (token != END) {
                now++;
                load();
            }
        }

        void nextLine() {
            now++;
            load();
        }

        private void load() {
            over = now < 0 || now >= count || now >= kinds.length;
            if (over) {
                level = NONE;
                token = END;
                return;
            }
            token = kinds[now];
            place = places[now];
            number = (int) values[now];
            key = values[now];
            line = lines[now];
            level = levels[now];
        }

        boolean isOperator() {
            return token >= UNEQUAL && token <= BIT_OR || token >= EQUAL && token <= REST || token == AND || token == OR;
        }

        // reading ahead

        void scan() {
            int begin = 0;
            for (int n = 0; n <= length && begin <= length; n++) {
                line = n;
                begin = scanLine(begin);
            }
        }

        /** Where the next line begins. */
        private int scanLine(int begin) {
            start = begin;
            stop = begin;
            while (stop < length && sign(stop) != 10 && !(sign(stop) == '-' && sign(stop + 1) == '-')) {
                stop++;
            }
            int after = stop;
            while (after < length && sign(after) != 10) {
                after++;
            }
            at = start;
            skipBlanks();
            int blanks = at - start;
            boolean counts = at < stop;
            level = blanks % 2 == 0 && blanks / 2 <= MOST_LEVEL ? blanks / 2 : ODD;
            for (int k = start; k < stop && at < stop; k++) {
                scanToken();
                skipBlanks();
            }
            if (counts) {
                add(END, stop, 0);
            }
            return after + 1;
        }

        private int sign(int k) {
            return k >= 0 && k < length && k < text.length ? text[k] : 0;
        }

        private void skipBlanks() {
            while (at < stop && sign(at) == ' ') {
                at++;
            }
        }

        private void add(int kind, int from, long value) {
            if (count < kinds.length) {
                kinds[count] = (byte) kind;
                places[count] = from - start;
                values[count] = value;
                lines[count] = line;
                levels[count] = (byte) level;
                count++;
            }
        }

        private void scanToken() {
            int first = sign(at);
            if (first >= 'a' && first <= 'z') {
                scanName();
            } else if (capital(first)) {
                scanKeyword();
            } else if (digit(first)) {
                scanNumber();
            } else {
                scanSign(first);
            }
        }

        private static boolean capital(int c) {
            return c >= 'A' && c <= 'Z';
        }

        private static boolean digit(int c) {
            return c >= '0' && c <= '9';
        }

        private void scanName() {
            int first = at;
            long sum = 0;
            while (at < stop && NAME_SIGNS.indexOf((char) sign(at)) > 0) {
                sum = sum * 64 + NAME_SIGNS.indexOf((char) sign(at));
                at++;
            }
            add(at - first > 10 ? BAD : NAME, first, sum);
        }

        static long keyOf(String name) {
            long sum = 0;
            for (int k = 0; k < name.length(); k++) {
                sum = sum * 64 + NAME_SIGNS.indexOf(name.charAt(k));
            }
            return sum;
        }

        private void scanKeyword() {
            int first = at;
            while (at < stop && capital(sign(at))) {
                at++;
            }
            int found = BAD;
            int word = 0;
            int kind = SEQ;
            for (int k = 0; k < KEYWORDS.length(); k++) {
                if (KEYWORDS.charAt(k) == ' ') {
                    if (k - word == at - first && isHere(word, k, first)) {
                        found = kind;
                    }
                    kind++;
                    word = k + 1;
                }
            }
            add(found, first, 0);
        }

        private boolean isHere(int word, int end, int first) {
            for (int k = word; k < end && k < KEYWORDS.length(); k++) {
                if (KEYWORDS.charAt(k) != sign(first + k - word)) {
                    return false;
                }
            }
            return true;
        }

        private void scanNumber() {
            int first = at;
            long sum = 0;
            while (at < stop && digit(sign(at))) {
                if (at - first < 10) {
                    sum = sum * 10 + sign(at) - '0';
                }
                at++;
            }
            add(at - first > 10 || sum > MOST_NUMBER ? BAD : NUMBER, first, sum);
        }

        private void scanSign(int first) {
            int second = at + 1 < stop ? sign(at + 1) : 0;
            for (int k = 0; k + 1 < PAIRS.length(); k += 2) {
                if (PAIRS.charAt(k) == first && PAIRS.charAt(k + 1) == second) {
                    add(BECOMES + k / 2, at, 0);
                    at += 2;
                    return;
                }
            }
            int single = SINGLES.indexOf((char) first);
            add(single < 0 ? BAD : SEND + single, at, 0);
            at++;
        }
    }

    /** What a name stands for, and where it lies. */
    private static final class Name {
        static final int VARIABLE = 0;
        static final int VALUE = 1;
        /** An INT parameter: its word is an address. */
        static final int REFERENCE = 2;
        /** The index of a SEQ. */
        static final int INDEX = 3;
        /** The index of a PAR: a number in each branch. */
        static final int CONSTANT = 4;
        static final int ARRAY = 5;
        static final int ARRAY_PARAMETER = 6;
        static final int CHANNEL = 7;
        static final int CHANNEL_PARAMETER = 8;
        static final int ROW = 9;
        /** A link or a channel of the host: its word is its address. */
        static final int PORT = 10;
        static final int PROCEDURE = 11;

        final int kind;
        final long key;
        /** In the order of the text, from 1 on; the host's have 0. */
        final int number;
        /** How many elements; of a PROC the size of its frame. */
        int size;
        int depth;
        int word;
        /** Where its frame lies in that of the PROC or processor, while code is typed. */
        int base;
        int first;
        int count;
        int value;
        int label;
        /** What is done with it: see Uses. */
        int flags;
        Node body;
        Name parameters;
        /** The next one of the same declarations or parameters. */
        Name also;
        /** The next one that is visible. */
        Name under;

        Name(int kind, long key, int number, int size) {
            this.kind = kind;
            this.key = key;
            this.number = number;
            this.size = size;
        }

        boolean isRow() {
            return kind == ARRAY || kind == ARRAY_PARAMETER || kind == ROW;
        }

        boolean isChannel() {
            return kind == CHANNEL || kind == CHANNEL_PARAMETER || kind == ROW || kind == PORT;
        }

        boolean isTarget() {
            return kind == VARIABLE || kind == REFERENCE || kind == ARRAY || kind == ARRAY_PARAMETER;
        }

        boolean isValue() {
            return isTarget() || kind == VALUE || kind == INDEX || kind == CONSTANT;
        }
    }

    /** A process, a line of IF or ALT, an E, a V or a C. */
    private static final class Node {
        static final int SKIP = 0;
        static final int STOP = 1;
        static final int ASSIGN = 2;
        static final int SEND = 3;
        static final int TAKE = 4;
        static final int CALL = 5;
        static final int SEQ = 6;
        static final int SEQ_FOR = 7;
        static final int PAR = 8;
        static final int PRI_PAR = 9;
        static final int PAR_FOR = 10;
        static final int IF = 11;
        static final int WHILE = 12;
        static final int ALT = 13;
        static final int CHOICE = 14;
        static final int GUARD = 15;
        static final int NUMBER = 20;
        static final int PART = 21;
        static final int BINARY = 22;
        static final int NEGATIVE = 23;
        static final int NOT = 24;

        int kind;
        final int line;
        /** A number, an operator's token, or how many branches or guards. */
        int value;
        Name name;
        Node one;
        Node two;
        Node three;
        Node body;
        Node next;
        /** What is declared ahead of a process. */
        Name names;
        /** The first word that it is given in its frame. */
        int word;
        /** Of a frame. */
        int size;
        int depth;
        /** Of a branch: its uses in the row of all. */
        int from;
        int to;
        /** Of a V or C: what is done with it, and which element it is. */
        int flags;
        boolean all;
        Name by;
        int plus;

        Node(int kind, int line) {
            this.kind = kind;
            this.line = line;
        }
    }

    /** What has been read, or why it can't be. */
    private static final class Program {
        static final int MOST_PROCS = 24;
        static final int MOST_LINKS = 12;
        static final int MOST_NAMES = 200;

        int kind;
        int line = NONE;
        int place = NONE;
        /** The processors' processes; null where there is none. */
        final Node[] roots = new Node[PROCESSORS];
        final Name[] procs = new Name[MOST_PROCS];
        int procCount;
        final Link[] links = new Link[MOST_LINKS];
        int linkCount;
        int names;
        /** How often a variable or channel is named. */
        int parts;

        void blame(int kind, int line, int place) {
            this.kind = kind;
            this.line = line;
            this.place = place;
        }
    }

    /** Reads the text line by line; the first fault ends it by an exception that parse() catches. */
    private static final class Parser {
        private static final int MOST_OPEN = 8;
        private static final int MOST_PARAMETERS = 6;
        private static final int MOST_BRANCHES = 8;
        private static final int MOST_ELEMENTS = 64;

        private final Program program;
        private final Scanner in;
        private Name top;
        /** How many ( and [ are open. */
        private int open;

        Parser(Program program, Scanner in) {
            this.program = program;
            this.in = in;
        }

        void parse() {
            showHost("screen", SCREEN);
            showHost("keys", KEYS);
            try {
                in.nextLine();
                for (int k = 0; k < MOST_SIGNS && in.level == 0 && in.token == Scanner.PROC; k++) {
                    readProc();
                }
                if (in.level == 0 && (in.token == Scanner.LINK || in.token == Scanner.PLACED)) {
                    readPlaced();
                } else {
                    program.roots[0] = process(0);
                }
                if (!in.over) {
                    form();
                }
            } catch (IllegalStateException found) {
                top = null;
            }
        }

        private void showHost(String name, int address) {
            Name port = new Name(Name.PORT, Scanner.keyOf(name), 0, 1);
            port.word = address;
            show(port);
        }

        private void fail(int kind, int place) {
            program.kind = kind;
            program.line = in.over ? NONE : in.line;
            program.place = in.over ? NONE : place;
            throw new IllegalStateException("fault");
        }

        private void form() {
            fail(FORM, in.place);
        }

        private void expect(int token) {
            if (in.token != token) {
                fail(FORM, in.place);
            }
            in.next();
        }

        private void needLevel(int level) {
            if (in.level != level) {
                form();
            }
        }

        private void endLine() {
            if (in.token != Scanner.END) {
                form();
            }
            open = 0;
            in.nextLine();
        }

        private int readNumber(int least, int most) {
            if (in.token != Scanner.NUMBER || in.number < least || in.number > most) {
                form();
            }
            int number = in.number;
            in.next();
            return number;
        }

        // names

        private void show(Name name) {
            name.under = top;
            top = name;
        }

        private Name find() {
            for (Name name = top; name != null; name = name.under) {
                if (name.key == in.key) {
                    return name;
                }
            }
            return null;
        }

        private Name known() {
            Name name = find();
            if (name == null) {
                fail(UNKNOWN, in.place);
            }
            return name;
        }

        /** A new name at this token, unlike those that became visible since the one that is given. */
        private Name fresh(int kind, int size, Name since) {
            if (in.token != Scanner.NAME) {
                form();
            }
            for (Name name = top; name != null && name != since; name = name.under) {
                if (name.key == in.key) {
                    fail(TWICE, in.place);
                }
            }
            boolean full = kind == Name.PROCEDURE && program.procCount >= Program.MOST_PROCS
                    || kind == Name.PORT && program.linkCount >= Program.MOST_LINKS;
            if (full || program.names >= Program.MOST_NAMES) {
                fail(TOO_MUCH, in.place);
            }
            program.names++;
            return new Name(kind, in.key, program.names, size);
        }

        // the program

        private void readProc() {
            in.next();
            Name proc = fresh(Name.PROCEDURE, 0, null);
            in.next();
            Name before = top;
            readParameters(proc);
            endLine();
            proc.body = process(1);
            top = before;
            needLevel(0);
            expect(Scanner.COLON);
            endLine();
            show(proc);
            if (program.procCount < program.procs.length) {
                program.procs[program.procCount] = proc;
                program.procCount++;
            }
        }

        private void readParameters(Name proc) {
            Name before = top;
            expect(Scanner.OPEN);
            Name last = null;
            for (int k = 0; k < MOST_PARAMETERS && !(k == 0 && in.token == Scanner.CLOSE); k++) {
                Name parameter = readParameter(before);
                if (last == null) {
                    proc.parameters = parameter;
                } else {
                    last.also = parameter;
                }
                last = parameter;
                proc.count++;
                if (in.token != Scanner.COMMA || proc.count == MOST_PARAMETERS) {
                    break;
                }
                in.next();
            }
            expect(Scanner.CLOSE);
        }

        private Name readParameter(Name before) {
            int kind = Name.REFERENCE;
            int size = 1;
            if (in.token == Scanner.CHAN) {
                kind = Name.CHANNEL_PARAMETER;
            } else if (in.token == Scanner.VAL) {
                kind = Name.VALUE;
                in.next();
            } else if (in.token == Scanner.SQUARE) {
                kind = Name.ARRAY_PARAMETER;
                in.next();
                size = readNumber(1, MOST_ELEMENTS);
                expect(Scanner.UNSQUARE);
            }
            expect(kind == Name.CHANNEL_PARAMETER ? Scanner.CHAN : Scanner.INT);
            Name parameter = fresh(kind, size, before);
            show(parameter);
            in.next();
            return parameter;
        }

        private void readPlaced() {
            for (int k = 0; k < MOST_SIGNS && in.level == 0 && in.token == Scanner.LINK; k++) {
                readLink();
            }
            needLevel(0);
            expect(Scanner.PLACED);
            expect(Scanner.PAR);
            endLine();
            needLevel(1);
            for (int k = 0; k < MOST_SIGNS && in.level == 1; k++) {
                expect(Scanner.PROCESSOR);
                boolean there = in.number >= 0 && in.number < PROCESSORS && program.roots[in.number] != null;
                if (in.token == Scanner.NUMBER && there) {
                    form();
                }
                int p = readNumber(0, PROCESSORS - 1);
                endLine();
                Node root = process(2);
                if (p >= 0 && p < PROCESSORS) {
                    program.roots[p] = root;
                }
            }
        }

        private void readLink() {
            in.next();
            Name name = fresh(Name.PORT, 1, null);
            in.next();
            expect(Scanner.FROM);
            int from = readNumber(0, PROCESSORS - 1);
            expect(Scanner.TO);
            if (in.token == Scanner.NUMBER && in.number == from) {
                form();
            }
            int to = readNumber(0, PROCESSORS - 1);
            expect(Scanner.COLON);
            endLine();
            name.word = program.linkCount;
            show(name);
            if (program.linkCount < program.links.length) {
                program.links[program.linkCount] = new Link(from, to);
                program.linkCount++;
            }
        }

        // processes

        private Node process(int level) {
            needLevel(level);
            Name before = top;
            Name names = null;
            Name last = null;
            for (int k = 0; k < MOST_SIGNS && startsDeclaration(); k++) {
                Name first = readDeclaration();
                if (last == null) {
                    names = first;
                } else {
                    last.also = first;
                }
                last = top;
                needLevel(level);
            }
            Node p = new Node(Node.SKIP, in.line);
            p.names = names;
            readStatement(p, level);
            top = before;
            return p;
        }

        private boolean startsDeclaration() {
            return in.token == Scanner.INT || in.token == Scanner.CHAN || in.token == Scanner.SQUARE;
        }

        /** The first of the names; the last one is on top then. */
        private Name readDeclaration() {
            int size = 0;
            if (in.token == Scanner.SQUARE) {
                in.next();
                size = readNumber(1, MOST_ELEMENTS);
                expect(Scanner.UNSQUARE);
            }
            boolean channels = in.token == Scanner.CHAN;
            expect(channels ? Scanner.CHAN : Scanner.INT);
            int single = channels ? Name.CHANNEL : Name.VARIABLE;
            int kind = size == 0 ? single : channels ? Name.ROW : Name.ARRAY;
            Name before = top;
            Name first = null;
            for (int k = 0; k < MOST_SIGNS; k++) {
                Name name = fresh(kind, Math.max(size, 1), before);
                if (first == null) {
                    first = name;
                } else {
                    top.also = name;
                }
                show(name);
                in.next();
                if (in.token != Scanner.COMMA) {
                    break;
                }
                in.next();
            }
            expect(Scanner.COLON);
            endLine();
            return first;
        }

        private void readStatement(Node p, int level) {
            switch (in.token) {
                case Scanner.SKIP:
                case Scanner.STOP:
                    p.kind = in.token == Scanner.SKIP ? Node.SKIP : Node.STOP;
                    in.next();
                    endLine();
                    break;
                case Scanner.NAME:
                    readSimple(p);
                    endLine();
                    break;
                case Scanner.SEQ:
                    readSeq(p, level);
                    break;
                case Scanner.PAR:
                    readPar(p, level);
                    break;
                case Scanner.PRI:
                    in.next();
                    p.kind = Node.PRI_PAR;
                    expect(Scanner.PAR);
                    endLine();
                    readBranches(p, level + 1, 2);
                    break;
                case Scanner.IF:
                    readIf(p, level);
                    break;
                case Scanner.WHILE:
                    in.next();
                    p.kind = Node.WHILE;
                    p.one = expression();
                    endLine();
                    p.body = process(level + 1);
                    break;
                case Scanner.ALT:
                    readAlt(p, level);
                    break;
                default:
                    form();
            }
        }

        private void readSeq(Node p, int level) {
            in.next();
            if (in.token == Scanner.END) {
                p.kind = Node.SEQ;
                endLine();
                readChildren(p, level + 1, MOST_SIGNS);
                return;
            }
            p.kind = Node.SEQ_FOR;
            p.name = fresh(Name.INDEX, 1, top);
            in.next();
            expect(Scanner.EQUAL);
            p.one = expression();
            expect(Scanner.FOR);
            p.two = expression();
            endLine();
            p.body = below(p.name, level + 1);
        }

        private void readPar(Node p, int level) {
            in.next();
            if (in.token == Scanner.END) {
                p.kind = Node.PAR;
                endLine();
                readBranches(p, level + 1, MOST_BRANCHES);
                return;
            }
            p.kind = Node.PAR_FOR;
            Name index = fresh(Name.CONSTANT, 1, top);
            in.next();
            expect(Scanner.EQUAL);
            index.first = readNumber(0, Scanner.MOST_NUMBER);
            expect(Scanner.FOR);
            index.count = readNumber(1, MOST_BRANCHES);
            endLine();
            p.name = index;
            p.value = index.count;
            p.one = below(index, level + 1);
        }

        private Node below(Name index, int level) {
            Name before = top;
            show(index);
            Node body = process(level);
            top = before;
            return body;
        }

        private void readBranches(Node p, int level, int most) {
            readChildren(p, level, most);
            if (p.value < 2) {
                form();
            }
        }

        /** Whatever is too much stands at a level that nothing else takes: it is seen there. */
        private void readChildren(Node p, int level, int most) {
            Node last = null;
            for (int k = 0; k < most && in.level == level; k++) {
                last = append(p, last, process(level));
            }
        }

        private static Node append(Node p, Node last, Node child) {
            if (last == null) {
                p.one = child;
            } else {
                last.next = child;
            }
            p.value++;
            return child;
        }

        private void readIf(Node p, int level) {
            in.next();
            p.kind = Node.IF;
            endLine();
            needLevel(level + 1);
            Node last = null;
            for (int k = 0; k < MOST_SIGNS && in.level == level + 1; k++) {
                Node choice = new Node(Node.CHOICE, in.line);
                choice.one = expression();
                endLine();
                choice.body = process(level + 2);
                last = append(p, last, choice);
            }
        }

        private void readAlt(Node p, int level) {
            in.next();
            p.kind = Node.ALT;
            endLine();
            needLevel(level + 1);
            Node last = null;
            for (int k = 0; k < MOST_BRANCHES && in.level == level + 1; k++) {
                Node guard = new Node(Node.GUARD, in.line);
                readGuard(guard);
                endLine();
                guard.body = process(level + 2);
                last = append(p, last, guard);
            }
        }

        /** Of a GUARD: one is its E, two its C, three its V. */
        private void readGuard(Node guard) {
            if (in.token == Scanner.NAME) {
                int place = in.place;
                Node part = unjudged();
                if (in.token == Scanner.TAKE) {
                    judge(part, part.name.isChannel(), place);
                    guard.two = part;
                    guard.three = readTarget();
                    return;
                }
                if (in.token != Scanner.AMPERSAND && !in.isOperator()) {
                    form();
                }
                judge(part, part.name.isValue(), place);
                guard.one = operated(part);
            } else {
                guard.one = expression();
            }
            expect(Scanner.AMPERSAND);
            if (in.token == Scanner.SKIP) {
                in.next();
                return;
            }
            if (in.token != Scanner.NAME) {
                form();
            }
            guard.two = judged(known().isChannel());
            if (in.token != Scanner.TAKE) {
                form();
            }
            guard.three = readTarget();
        }

        private void readSimple(Node p) {
            int place = in.place;
            Node part = unjudged();
            Name name = part.name;
            p.one = part;
            switch (in.token) {
                case Scanner.OPEN:
                    if (part.one != null) {
                        form();
                    }
                    judge(part, name.kind == Name.PROCEDURE, place);
                    p.kind = Node.CALL;
                    p.name = name;
                    readArguments(p);
                    break;
                case Scanner.BECOMES:
                    judge(part, name.isTarget(), place);
                    p.kind = Node.ASSIGN;
                    in.next();
                    p.two = expression();
                    break;
                case Scanner.SEND:
                    judge(part, name.isChannel(), place);
                    p.kind = Node.SEND;
                    in.next();
                    p.two = expression();
                    break;
                case Scanner.TAKE:
                    judge(part, name.isChannel(), place);
                    p.kind = Node.TAKE;
                    p.two = readTarget();
                    break;
                default:
                    form();
            }
        }

        private void readArguments(Node call) {
            openBracket();
            call.one = null;
            Node last = null;
            for (Name parameter = call.name.parameters; parameter != null; parameter = parameter.also) {
                if (last != null) {
                    if (in.token == Scanner.CLOSE) {
                        fail(KIND, in.place);
                    }
                    expect(Scanner.COMMA);
                }
                boolean byName = parameter.kind != Name.VALUE;
                if (in.token == Scanner.CLOSE || byName && in.token != Scanner.NAME) {
                    fail(KIND, in.place);
                }
                Node argument;
                if (parameter.kind == Name.ARRAY_PARAMETER) {
                    argument = readArray(parameter.size);
                } else if (parameter.kind == Name.CHANNEL_PARAMETER) {
                    argument = judged(known().isChannel());
                } else {
                    argument = byName ? judged(known().isTarget()) : expression();
                }
                last = append(call, last, argument);
            }
            if (last != null && in.token == Scanner.COMMA) {
                fail(KIND, in.place);
            }
            closeBracket(Scanner.CLOSE);
        }

        private Node readArray(int size) {
            Name name = known();
            int place = in.place;
            boolean array = name.kind == Name.ARRAY || name.kind == Name.ARRAY_PARAMETER;
            if (!array || name.size != size) {
                fail(KIND, place);
            }
            Node part = newPart(name);
            in.next();
            if (in.token == Scanner.SQUARE) {
                fail(KIND, place);
            }
            return part;
        }

        // V, C and E

        private Node newPart(Name name) {
            Node part = new Node(Node.PART, in.line);
            part.name = name;
            program.parts++;
            return part;
        }

        private void judge(Node part, boolean wanted, int place) {
            if (!wanted || part.name.isRow() != (part.one != null)) {
                fail(KIND, place);
            }
        }

        /**
         * A NAME, with [ E ] if a [ is there. Where a PROCESS or a GUARD begins with it the caller judges it by the
         * token behind it; a row without its [, too, so that a token there that tells nothing is FORM.
         */
        private Node unjudged() {
            Node part = newPart(known());
            int place = in.place;
            in.next();
            if (in.token == Scanner.SQUARE) {
                if (!part.name.isRow()) {
                    fail(KIND, place);
                }
                openBracket();
                part.one = expression();
                closeBracket(Scanner.UNSQUARE);
            }
            return part;
        }

        /**
         * The same where its kind is known ahead: a name of another kind is refused at once, and a row by any token
         * behind it but a [, ahead of what is wrong with that token.
         */
        private Node judged(boolean wanted) {
            int place = in.place;
            if (!wanted) {
                fail(KIND, place);
            }
            Node part = unjudged();
            judge(part, true, place);
            return part;
        }

        /** The V behind a ?. */
        private Node readTarget() {
            in.next();
            if (in.token != Scanner.NAME) {
                form();
            }
            return judged(known().isTarget());
        }

        private void openBracket() {
            if (open >= MOST_OPEN) {
                fail(FORM, in.place);
            }
            open++;
            in.next();
        }

        private void closeBracket(int token) {
            if (in.token != token) {
                fail(FORM, in.place);
            }
            open--;
            in.next();
        }

        private Node expression() {
            if (in.token == Scanner.MINUS || in.token == Scanner.NOT) {
                Node e = new Node(in.token == Scanner.NOT ? Node.NOT : Node.NEGATIVE, in.line);
                in.next();
                e.one = operand();
                return e;
            }
            return operated(operand());
        }

        private Node operated(Node left) {
            if (!in.isOperator()) {
                return left;
            }
            Node e = new Node(Node.BINARY, in.line);
            e.value = in.token;
            e.one = left;
            in.next();
            e.two = operand();
            return e;
        }

        private Node operand() {
            switch (in.token) {
                case Scanner.NUMBER:
                    return numeral(in.number);
                case Scanner.TRUE:
                    return numeral(1);
                case Scanner.NAME:
                    return judged(known().isValue());
                case Scanner.OPEN:
                    openBracket();
                    Node e = expression();
                    closeBracket(Scanner.CLOSE);
                    return e;
                case Scanner.FALSE:
                    return numeral(0);
                default:
                    form();
                    return null;
            }
        }

        private Node numeral(int value) {
            Node e = new Node(Node.NUMBER, in.line);
            e.value = value;
            in.next();
            return e;
        }
    }

    /** Gives the words of frames, and tells how large and deep those are. */
    private static final class Layout {
        /** Depths stop growing here: it is far too much, and sums of eight stay small. */
        private static final int MOST_DEPTH = 1000000;
        private int most;

        void measure(Program program) {
            for (int k = 0; k < program.procCount && k < program.procs.length; k++) {
                Name proc = program.procs[k];
                if (proc != null && proc.body != null) {
                    int word = 1;
                    for (Name parameter = proc.parameters; parameter != null; parameter = parameter.also) {
                        parameter.word = word;
                        word++;
                    }
                    frame(proc.body, word);
                    proc.size = proc.body.size;
                    proc.depth = proc.body.depth;
                    judge(program, proc.body);
                }
            }
            for (int p = 0; p < PROCESSORS; p++) {
                Node root = program.roots[p];
                if (root != null) {
                    frame(root, 1);
                    judge(program, root);
                }
            }
        }

        private static void judge(Program program, Node body) {
            if (body.size + body.depth + 3 > MOST_WORDS) {
                program.blame(TOO_MUCH, NONE, NONE);
            }
        }

        private void frame(Node body, int word) {
            int around = most;
            most = word;
            body.depth = process(body, word);
            body.size = most;
            most = around;
        }

        private void grow(int word) {
            most = Math.max(most, word);
        }

        /** The depth of a process whose words begin at the one that is given. */
        private int process(Node p, int word) {
            int free = word;
            for (Name name = p.names; name != null; name = name.also) {
                name.word = free;
                free += name.size;
            }
            grow(free);
            switch (p.kind) {
                case Node.ASSIGN:
                case Node.SEND:
                case Node.TAKE:
                    keep(p.one, free);
                    keep(p.two, free);
                    return 0;
                case Node.CALL:
                    for (Node argument = p.one; argument != null; argument = argument.next) {
                        keep(argument, free);
                    }
                    return p.name == null ? 0 : Math.min(7 + p.name.size + p.name.depth, MOST_DEPTH);
                case Node.SEQ_FOR:
                    return loop(p, free);
                case Node.WHILE:
                    keep(p.one, free);
                    return deeper(0, p.body, free);
                case Node.PAR:
                case Node.PRI_PAR:
                case Node.PAR_FOR:
                    return branches(p, free);
                case Node.ALT:
                    p.word = free;
                    return choices(p, free + 2 * p.value);
                case Node.IF:
                    return choices(p, free);
                default:
                    return children(p, free);
            }
        }

        private int deeper(int depth, Node p, int word) {
            return p == null ? depth : Math.max(depth, process(p, word));
        }

        private int children(Node p, int word) {
            int depth = 0;
            for (Node child = p.one; child != null; child = child.next) {
                depth = deeper(depth, child, word);
            }
            return depth;
        }

        private int loop(Node p, int word) {
            if (p.name != null) {
                p.name.word = word;
            }
            grow(word + 2);
            keep(p.one, word + 2);
            keep(p.two, word + 2);
            return deeper(0, p.body, word + 2);
        }

        private int branches(Node p, int word) {
            p.word = word;
            grow(word + 3);
            int depth = 3;
            for (Node branch = p.one; branch != null; branch = branch.next) {
                frame(branch, 1);
                int words = branch.size + branch.depth + 3;
                depth += p.kind == Node.PAR_FOR ? words * p.value : words;
            }
            return Math.min(depth, MOST_DEPTH);
        }

        /** The lines of an IF or ALT. */
        private int choices(Node p, int word) {
            grow(word);
            int depth = 0;
            for (Node choice = p.one; choice != null; choice = choice.next) {
                keep(choice.one, word);
                keep(choice.two, word);
                keep(choice.three, word);
                depth = deeper(depth, choice.body, word);
            }
            return depth;
        }

        /** Y is done ahead of the word that keeps it, X behind: so X's words lie above, Y's need not. */
        private void keep(Node e, int word) {
            if (e == null) {
                return;
            }
            if (!Coder.keepsRight(e)) {
                keep(e.one, word);
                keep(e.two, word);
                return;
            }
            keep(e.two, word);
            e.word = word;
            grow(word + 1);
            keep(e.one, word + 1);
        }
    }

    /** Judges what branches of a PAR, arguments of a CALL and processors do with variables and channels. */
    private static final class Uses {
        private static final int READS = 1;
        private static final int WRITES = 2;
        private static final int SENDS = 4;
        private static final int TAKES = 8;

        private final Program program;
        private final Node[] seen;
        private int count;
        /** NONE in a PROC. */
        private int processor;
        private int least = NONE;

        Uses(Program program) {
            this.program = program;
            this.seen = new Node[Math.max(program.parts, 0)];
        }

        void judge() {
            processor = NONE;
            for (int k = 0; k < program.procCount && k < program.procs.length; k++) {
                Name proc = program.procs[k];
                count = 0;
                if (proc != null) {
                    process(proc.body);
                }
            }
            for (int p = 0; p < PROCESSORS; p++) {
                processor = p;
                count = 0;
                process(program.roots[p]);
            }
            if (least != NONE) {
                program.blame(USE, least, NONE);
            }
        }

        private void blame(int line) {
            least = least == NONE ? line : Math.min(least, line);
        }

        private void process(Node p) {
            if (p == null) {
                return;
            }
            switch (p.kind) {
                case Node.ASSIGN:
                    read(p.two);
                    use(p.one, WRITES);
                    break;
                case Node.SEND:
                    read(p.two);
                    use(p.one, SENDS);
                    break;
                case Node.TAKE:
                    use(p.one, TAKES);
                    use(p.two, WRITES);
                    break;
                case Node.CALL:
                    arguments(p);
                    break;
                case Node.PAR:
                case Node.PRI_PAR:
                case Node.PAR_FOR:
                    branches(p);
                    break;
                case Node.IF:
                case Node.ALT:
                    choices(p);
                    break;
                case Node.SEQ:
                    for (Node child = p.one; child != null; child = child.next) {
                        process(child);
                    }
                    break;
                default:
                    read(p.one);
                    read(p.two);
                    process(p.body);
            }
        }

        private void choices(Node p) {
            for (Node choice = p.one; choice != null; choice = choice.next) {
                read(choice.one);
                use(choice.two, TAKES);
                use(choice.three, WRITES);
                process(choice.body);
            }
        }

        private void read(Node e) {
            if (e == null) {
                return;
            }
            if (e.kind == Node.PART) {
                use(e, READS);
                return;
            }
            read(e.one);
            read(e.two);
        }

        private void use(Node part, int flags) {
            if (part == null || part.name == null) {
                return;
            }
            read(part.one);
            part.flags = flags;
            part.name.flags |= flags;
            findElement(part);
            if (part.name.kind == Name.PORT && flags != 0 && !mayUse(part.name.word, flags)) {
                blame(part.line);
            }
            if (count < seen.length && part.name.kind != Name.CONSTANT) {
                seen[count] = part;
                count++;
            }
        }

        /** CONSTANT indexes are a number, or by's number, and plus. */
        private static void findElement(Node part) {
            Node index = part.one;
            if (index == null) {
                part.all = part.name != null && part.name.isRow();
                return;
            }
            Node base = index;
            boolean sum = index.kind == Node.BINARY && (index.value == Scanner.PLUS || index.value == Scanner.MINUS);
            if (sum && index.two != null && index.two.kind == Node.NUMBER) {
                base = index.one;
                part.plus = index.value == Scanner.PLUS ? index.two.value : -index.two.value;
            }
            if (base != null && base.kind == Node.NUMBER) {
                part.plus += base.value;
            } else if (base != null && base.name != null && base.name.kind == Name.CONSTANT) {
                part.by = base.name;
            } else {
                part.all = true;
            }
        }

        private boolean mayUse(int port, int flags) {
            boolean sends = (flags & SENDS) != 0;
            boolean takes = (flags & TAKES) != 0;
            if (processor == NONE) {
                return false;
            }
            if (port == SCREEN || port == KEYS) {
                return processor == 0 && !(port == SCREEN ? takes : sends);
            }
            Link link = port >= 0 && port < program.links.length ? program.links[port] : null;
            return link != null && (!sends || link.from == processor) && (!takes || link.to == processor);
        }

        private void arguments(Node call) {
            if (call.name == null) {
                return;
            }
            Name parameter = call.name.parameters;
            for (Node argument = call.one; argument != null && parameter != null; argument = argument.next) {
                if (parameter.kind == Name.VALUE) {
                    read(argument);
                } else {
                    use(argument, parameter.flags);
                    againstOthers(call, argument, parameter);
                }
                parameter = parameter.also;
            }
        }

        /** An argument beside those ahead of it. */
        private void againstOthers(Node call, Node argument, Name parameter) {
            Name other = call.name.parameters;
            for (Node ahead = call.one; ahead != null && ahead != argument && other != null; ahead = ahead.next) {
                boolean same = other.kind != Name.VALUE && ahead.name == argument.name && meets(ahead, argument, null);
                if (same && (argument.name.isChannel() || clash(other.flags, parameter.flags))) {
                    blame(call.line);
                }
                other = other.also;
            }
        }

        private static boolean clash(int flags, int others) {
            boolean written = (flags & WRITES) != 0 && (others & (READS | WRITES)) != 0
                    || (others & WRITES) != 0 && (flags & (READS | WRITES)) != 0;
            return written || (flags & others & (SENDS | TAKES)) != 0;
        }

        private void branches(Node p) {
            for (Node branch = p.one; branch != null; branch = branch.next) {
                branch.from = count;
                process(branch);
                branch.to = count;
            }
            if (p.kind == Node.PAR_FOR) {
                if (p.one != null && p.value > 1) {
                    compare(p, p.one, p.one);
                }
                return;
            }
            for (Node branch = p.one; branch != null; branch = branch.next) {
                for (Node other = branch.next; other != null; other = other.next) {
                    compare(p, branch, other);
                }
            }
        }

        private void compare(Node par, Node branch, Node other) {
            for (int k = branch.from; k < branch.to && k < seen.length; k++) {
                Node part = seen[k];
                for (int j = branch == other ? k : other.from; j < other.to && j < seen.length; j++) {
                    Node beside = seen[j];
                    boolean both = part != null && beside != null && part.name == beside.name;
                    if (both && against(part, beside, par.name)) {
                        blame(par.line);
                        return;
                    }
                }
            }
        }

        /** Names behind the index of a PAR are the branch's own: each branch has another one. */
        private static boolean against(Node part, Node other, Name index) {
            boolean own = index != null && part.name.number > index.number;
            return !own && clash(part.flags, other.flags) && meets(part, other, index);
        }

        /** Whether two parts of one name may be the same: for some numbers of the indexes that they have. */
        private static boolean meets(Node part, Node other, Name index) {
            if (part.all || other.all) {
                return true;
            }
            int many = part.by == null ? 1 : part.by.count;
            int more = other.by == null ? 1 : other.by.count;
            for (int k = 0; k < many; k++) {
                for (int j = 0; j < more; j++) {
                    boolean together = part.by != other.by || part.by == null || atOnce(part.by, k, j, index);
                    if (together && elementOf(part, k) == elementOf(other, j)) {
                        return true;
                    }
                }
            }
            return false;
        }

        /** An index around the PAR is the same in both branches, the PAR's own another one, one within them any. */
        private static boolean atOnce(Name by, int k, int j, Name index) {
            if (index == null || by.number < index.number) {
                return k == j;
            }
            return by != index || k != j;
        }

        private static int elementOf(Node part, int k) {
            return part.by == null ? part.plus : part.by.first + k + part.plus;
        }
    }

    /** Types a processor's code: first a row of instructions with ways to labels, then bytes. */
    private static final class Coder {
        static final int J = 0;
        static final int LDLP = 1;
        static final int PFIX = 2;
        static final int LDNL = 3;
        static final int LDC = 4;
        static final int LDNLP = 5;
        static final int NFIX = 6;
        static final int LDL = 7;
        static final int ADC = 8;
        static final int CALL = 9;
        static final int CJ = 10;
        static final int AJW = 11;
        static final int EQC = 12;
        static final int STL = 13;
        static final int STNL = 14;
        static final int OPR = 15;

        static final int REV = 0;
        static final int ADD = 1;
        static final int SUB = 2;
        static final int MUL = 3;
        static final int DIV = 4;
        static final int REM = 5;
        static final int GT = 6;
        static final int AND = 7;
        static final int OR = 8;
        static final int SHL = 9;
        static final int SHR = 10;
        static final int WSUB = 11;
        static final int CHECK = 12;
        static final int LDPI = 13;
        static final int FILL = 14;
        static final int STARTP = 15;
        static final int STARTH = 16;
        static final int ENDP = 17;
        static final int STOPP = 18;
        static final int RET = 19;
        static final int IN = 20;
        static final int OUT = 21;
        static final int ALT = 22;
        static final int ENBC = 23;
        static final int ENBS = 24;
        static final int ALTWT = 25;
        static final int DISC = 26;
        static final int DISS = 27;
        static final int ALTEND = 28;
        static final int FAIL = 29;
        static final int LDSELF = 30;
        static final int DONE = 31;

        /** Ways that are counted from behind this instruction, or from behind the next one. */
        private static final int BEHIND_THIS = -1;
        private static final int BEHIND_NEXT = -2;
        private static final int PASSES = 1000000;

        private final byte[] functions = new byte[MOST_BYTES];
        private final int[] operands = new int[MOST_BYTES];
        private final int[] targets = new int[MOST_BYTES];
        private final int[] origins = new int[MOST_BYTES];
        private final byte[] lengths = new byte[MOST_BYTES];
        private final int[] places = new int[MOST_BYTES + 1];
        private final int[] labels = new int[MOST_BYTES];
        private int count;
        private int labelCount;
        private int startLabel;
        /** Where the frame lies in that of the PROC or processor. */
        private int base;
        /** There is more than a processor may have. */
        boolean full;

        void translate(Program program, Node root) {
            count = 0;
            labelCount = 0;
            full = false;
            base = 0;
            for (int k = 0; k < program.procCount && k < program.procs.length; k++) {
                Name proc = program.procs[k];
                if (proc != null) {
                    proc.label = newLabel();
                    here(proc.label);
                    emit(AJW, -(proc.size + 3));
                    process(proc.body);
                    emit(AJW, proc.size + 3);
                    operation(RET);
                }
            }
            startLabel = newLabel();
            here(startLabel);
            process(root);
            operation(DONE);
            for (int k = 0; k < count; k++) {
                lengths[k] = (byte) (targets[k] == NONE ? lengthOf(operands[k]) : 1);
            }
            for (int pass = 0; pass < PASSES && !full; pass++) {
                if (!lengthen()) {
                    break;
                }
            }
        }

        int start() {
            return placeOf(startLabel);
        }

        byte[] bytes() {
            byte[] made = new byte[Math.max(0, Math.min(places[count], MOST_BYTES))];
            for (int k = 0; k < count; k++) {
                write(made, k);
            }
            return made;
        }

        // instructions

        private void emit(int function, int operand) {
            if (count >= MOST_BYTES) {
                full = true;
                return;
            }
            functions[count] = (byte) function;
            operands[count] = operand;
            targets[count] = NONE;
            count++;
        }

        private void operation(int operand) {
            emit(OPR, operand);
        }

        private void way(int function, int label, int origin) {
            int k = count;
            emit(function, 0);
            if (k < count) {
                targets[k] = label;
                origins[k] = origin;
            }
        }

        private int newLabel() {
            if (labelCount >= labels.length) {
                full = true;
                return 0;
            }
            labels[labelCount] = 0;
            labelCount++;
            return labelCount - 1;
        }

        private void here(int label) {
            if (label >= 0 && label < labels.length) {
                labels[label] = count;
            }
        }

        private int placeOf(int label) {
            int k = label >= 0 && label < labels.length ? labels[label] : 0;
            return k >= 0 && k < places.length ? places[k] : 0;
        }

        private static int lengthOf(int operand) {
            int rest = operand < 0 ? ~operand >>> 4 : operand >>> 4;
            int bytes = operand < 0 ? 2 : 1;
            if (operand < 0) {
                rest = rest >>> 4;
            }
            for (int k = 0; k < 8 && rest != 0; k++) {
                rest = rest >>> 4;
                bytes++;
            }
            return bytes;
        }

        /** All ways are measured with the lengths of before; whether one needs more. */
        private boolean lengthen() {
            places[0] = 0;
            for (int k = 0; k < count; k++) {
                places[k + 1] = places[k] + lengths[k];
            }
            if (places[count] > MOST_BYTES) {
                full = true;
                return false;
            }
            boolean more = false;
            for (int k = 0; k < count; k++) {
                if (targets[k] != NONE) {
                    operands[k] = placeOf(targets[k]) - originOf(k);
                    int needed = lengthOf(operands[k]);
                    if (needed > lengths[k]) {
                        lengths[k] = (byte) needed;
                        more = true;
                    }
                }
            }
            return more;
        }

        private int originOf(int k) {
            if (origins[k] >= 0) {
                return placeOf(origins[k]);
            }
            int behind = origins[k] == BEHIND_THIS ? k + 1 : k + 2;
            return places[Math.min(behind, count)];
        }

        private void write(byte[] made, int k) {
            int last = places[k + 1] - 1;
            int operand = operands[k];
            store(made, last, functions[k], operand);
            int rest = operand < 0 ? ~operand >>> 4 : operand >>> 4;
            for (int at = last - 1; at >= places[k]; at--) {
                store(made, at, operand < 0 && at == last - 1 ? NFIX : PFIX, rest);
                rest = rest >>> 4;
            }
        }

        private static void store(byte[] made, int at, int function, int bits) {
            if (at >= 0 && at < made.length) {
                made[at] = (byte) (function << 4 | bits & 15);
            }
        }

        // E, V and C

        /** Whether a value is a number or a NAME without [ ]: it leaves what lies on the stack alone. */
        private static boolean isPlain(Node e) {
            return e != null && (e.kind == Node.NUMBER || e.kind == Node.PART && e.one == null);
        }

        static boolean keepsRight(Node e) {
            boolean binary = e.kind == Node.BINARY && e.value != Scanner.AND && e.value != Scanner.OR;
            return binary && !isPlain(e.two);
        }

        private void value(Node e) {
            if (e == null || full) {
                return;
            }
            switch (e.kind) {
                case Node.NUMBER:
                    emit(LDC, e.value);
                    break;
                case Node.PART:
                    valueOfPart(e);
                    break;
                case Node.NEGATIVE:
                    value(e.one);
                    emit(LDC, 0);
                    operation(REV);
                    operation(SUB);
                    break;
                case Node.NOT:
                    value(e.one);
                    emit(EQC, 0);
                    break;
                default:
                    binary(e);
            }
        }

        private void valueOfPart(Node part) {
            Name name = part.name;
            if (name == null) {
                return;
            }
            if (name.kind == Name.CONSTANT) {
                emit(LDC, name.value);
            } else if (name.kind == Name.REFERENCE || part.one != null) {
                address(part);
                emit(LDNL, 0);
            } else {
                emit(LDL, wordOf(name));
            }
        }

        /** A name's word, counted from this frame's W. */
        private int wordOf(Name name) {
            return name.base + name.word - base;
        }

        private void address(Node part) {
            if (part == null || part.name == null || full) {
                return;
            }
            Name name = part.name;
            if (part.one != null) {
                value(part.one);
                emit(LDC, name.size);
                operation(CHECK);
            }
            boolean held = name.kind == Name.REFERENCE || name.kind == Name.ARRAY_PARAMETER
                    || name.kind == Name.CHANNEL_PARAMETER;
            if (name.kind == Name.PORT) {
                emit(LDC, name.word);
            } else {
                emit(held ? LDL : LDLP, wordOf(name));
            }
            if (part.one != null) {
                operation(WSUB);
            }
        }

        private void binary(Node e) {
            if (e.value == Scanner.AND || e.value == Scanner.OR) {
                logical(e);
            } else if (keepsRight(e)) {
                value(e.two);
                emit(STL, e.word);
                value(e.one);
                emit(LDL, e.word);
                operator(e.value);
            } else {
                value(e.one);
                value(e.two);
                operator(e.value);
            }
        }

        private void logical(Node e) {
            int end = newLabel();
            value(e.one);
            if (e.value == Scanner.OR) {
                emit(EQC, 0);
            }
            way(CJ, end, BEHIND_THIS);
            value(e.two);
            emit(EQC, 0);
            if (e.value == Scanner.AND) {
                emit(EQC, 0);
            }
            here(end);
            if (e.value == Scanner.OR) {
                emit(EQC, 0);
            }
        }

        private void operator(int token) {
            switch (token) {
                case Scanner.PLUS: operation(ADD); break;
                case Scanner.TIMES: operation(MUL); break;
                case Scanner.OVER: operation(DIV); break;
                case Scanner.REST: operation(REM); break;
                case Scanner.SHIFT_LEFT: operation(SHL); break;
                case Scanner.SHIFT_RIGHT: operation(SHR); break;
                case Scanner.BIT_AND: operation(AND); break;
                case Scanner.BIT_OR: operation(OR); break;
                case Scanner.LESS:
                case Scanner.AT_LEAST:
                    operation(REV);
                    operation(GT);
                    break;
                case Scanner.MORE:
                case Scanner.AT_MOST:
                    operation(GT);
                    break;
                default: operation(SUB);
            }
            boolean unequal = token == Scanner.UNEQUAL;
            if (unequal || token == Scanner.EQUAL || token == Scanner.AT_MOST || token == Scanner.AT_LEAST) {
                emit(EQC, 0);
            }
            if (unequal) {
                emit(EQC, 0);
            }
        }

        // processes

        private void process(Node p) {
            if (p == null || full) {
                return;
            }
            for (Name name = p.names; name != null; name = name.also) {
                declare(name);
            }
            switch (p.kind) {
                case Node.SKIP:
                    break;
                case Node.STOP:
                    operation(STOPP);
                    break;
                case Node.ASSIGN:
                    assign(p);
                    break;
                case Node.SEND:
                    value(p.two);
                    address(p.one);
                    operation(OUT);
                    break;
                case Node.TAKE:
                    address(p.two);
                    address(p.one);
                    operation(IN);
                    break;
                case Node.CALL:
                    call(p);
                    break;
                case Node.SEQ_FOR:
                    loop(p);
                    break;
                case Node.IF:
                    choose(p);
                    break;
                case Node.WHILE:
                    repeat(p);
                    break;
                case Node.PAR:
                case Node.PRI_PAR:
                case Node.PAR_FOR:
                    fork(p);
                    break;
                case Node.ALT:
                    alternative(p);
                    break;
                default:
                    for (Node child = p.one; child != null; child = child.next) {
                        process(child);
                    }
            }
        }

        private void declare(Name name) {
            name.base = base;
            emit(LDC, name.isChannel() ? NONE : 0);
            emit(LDC, name.size);
            emit(LDLP, name.word);
            operation(FILL);
        }

        private void assign(Node p) {
            value(p.two);
            if (p.one == null || p.one.name == null) {
                return;
            }
            if (p.one.name.kind == Name.VARIABLE) {
                emit(STL, wordOf(p.one.name));
            } else {
                address(p.one);
                emit(STNL, 0);
            }
        }

        private void call(Node p) {
            if (p.name == null) {
                return;
            }
            Name parameter = p.name.parameters;
            for (Node argument = p.one; argument != null && parameter != null; argument = argument.next) {
                if (parameter.kind == Name.VALUE) {
                    value(argument);
                } else {
                    address(argument);
                }
                emit(STL, parameter.word - 7 - p.name.size);
                parameter = parameter.also;
            }
            way(CALL, p.name.label, BEHIND_THIS);
        }

        private void loop(Node p) {
            if (p.name == null) {
                return;
            }
            int top = newLabel();
            int end = newLabel();
            int index = p.name.word;
            p.name.base = base;
            value(p.one);
            emit(STL, index);
            value(p.two);
            emit(STL, index + 1);
            here(top);
            emit(LDL, index + 1);
            emit(LDC, 0);
            operation(GT);
            way(CJ, end, BEHIND_THIS);
            process(p.body);
            emit(LDL, index);
            emit(ADC, 1);
            emit(STL, index);
            emit(LDL, index + 1);
            emit(ADC, -1);
            emit(STL, index + 1);
            way(J, top, BEHIND_THIS);
            here(end);
        }

        private void choose(Node p) {
            int end = newLabel();
            for (Node choice = p.one; choice != null; choice = choice.next) {
                int next = newLabel();
                value(choice.one);
                way(CJ, next, BEHIND_THIS);
                process(choice.body);
                way(J, end, BEHIND_THIS);
                here(next);
            }
            operation(FAIL);
            here(end);
        }

        private void repeat(Node p) {
            int top = newLabel();
            int end = newLabel();
            here(top);
            value(p.one);
            way(CJ, end, BEHIND_THIS);
            process(p.body);
            way(J, top, BEHIND_THIS);
            here(end);
        }

        private void fork(Node p) {
            int behind = newLabel();
            way(LDC, behind, BEHIND_NEXT);
            operation(LDPI);
            emit(STL, p.word);
            emit(LDC, p.value);
            emit(STL, p.word + 1);
            operation(LDSELF);
            emit(STL, p.word + 2);
            int first = labelCount;
            startBranches(p);
            operation(STOPP);
            int below = 3;
            Node b = p.one;
            for (int k = 0; k < p.value && b != null && !full; k++) {
                here(first + k);
                if (p.kind == Node.PAR_FOR && p.name != null) {
                    p.name.value = p.name.first + k;
                }
                branch(p, b, below + b.size);
                below += b.size + b.depth + 3;
                b = p.kind == Node.PAR_FOR ? b : b.next;
            }
            here(behind);
        }

        /** The branches' labels are new ones in a row. */
        private void startBranches(Node p) {
            int below = 3;
            Node b = p.one;
            for (int k = 0; k < p.value && b != null; k++) {
                way(LDC, newLabel(), BEHIND_NEXT);
                operation(LDPI);
                emit(LDLP, -(below + b.size));
                operation(p.kind == Node.PRI_PAR && k == 0 ? STARTH : STARTP);
                below += b.size + b.depth + 3;
                b = p.kind == Node.PAR_FOR ? b : b.next;
            }
        }

        private void branch(Node p, Node b, int below) {
            int around = base;
            base = around - below;
            process(b);
            emit(LDLP, p.word + below);
            operation(ENDP);
            base = around;
        }

        private void alternative(Node p) {
            int word = p.word;
            for (Node guard = p.one; guard != null; guard = guard.next) {
                prepare(guard, word);
                word += 2;
            }
            operation(ALT);
            word = p.word;
            for (Node guard = p.one; guard != null; guard = guard.next) {
                loadGuard(guard, word, ENBC, ENBS);
                word += 2;
            }
            operation(ALTWT);
            int chosen = newLabel();
            int first = labelCount;
            word = p.word;
            for (Node guard = p.one; guard != null; guard = guard.next) {
                way(LDC, newLabel(), chosen);
                loadGuard(guard, word, DISC, DISS);
                word += 2;
            }
            operation(ALTEND);
            here(chosen);
            answers(p, first);
        }

        private void prepare(Node guard, int word) {
            if (guard.one == null) {
                emit(LDC, 1);
            } else {
                value(guard.one);
            }
            emit(STL, word);
            if (guard.two != null) {
                address(guard.two);
                emit(STL, word + 1);
            }
        }

        private void loadGuard(Node guard, int word, int ofChannel, int ofSkip) {
            emit(LDL, word);
            if (guard.two != null) {
                emit(LDL, word + 1);
            }
            operation(guard.two != null ? ofChannel : ofSkip);
        }

        private void answers(Node p, int first) {
            int end = newLabel();
            int label = first;
            int word = p.word;
            for (Node guard = p.one; guard != null; guard = guard.next) {
                here(label);
                if (guard.two != null) {
                    address(guard.three);
                    emit(LDL, word + 1);
                    operation(IN);
                }
                process(guard.body);
                way(J, end, BEHIND_THIS);
                label++;
                word += 2;
            }
            here(end);
        }
    }

    /** The cores, their links and the host. */
    private static final class Machine {
        final Program program;
        final Core[] cores = new Core[PROCESSORS];
        final int[] inputs = new int[200];
        int given;
        /** Inputs that were taken. */
        int used;
        final int[] outputs = new int[1000];
        /** All of the outputs, also those that aren't kept. */
        int shown;
        int beats;
        int packets;

        Machine(Program program) {
            this.program = program;
        }

        void reset() {
            given = 0;
            used = 0;
            shown = 0;
            beats = 0;
            packets = 0;
            for (int l = 0; l < program.linkCount; l++) {
                Link link = linkAt(l);
                if (link != null) {
                    link.clear();
                }
            }
            for (int p = 0; p < PROCESSORS; p++) {
                if (cores[p] != null) {
                    cores[p].reset();
                }
            }
        }

        int count() {
            int sum = 0;
            for (int p = 0; p < PROCESSORS; p++) {
                sum += cores[p] == null ? 0 : 1;
            }
            return sum;
        }

        Core coreAt(int p) {
            return p >= 0 && p < cores.length ? cores[p] : null;
        }

        Link linkAt(int l) {
            return l >= 0 && l < program.linkCount && l < program.links.length ? program.links[l] : null;
        }

        boolean hasInput() {
            return used < given;
        }

        int takeInput() {
            int k = used;
            used++;
            return k >= 0 && k < inputs.length ? inputs[k] : 0;
        }

        void offer(int v) {
            if (given >= inputs.length) {
                return;
            }
            inputs[given] = v;
            given++;
            Core core = cores[0];
            if (core != null) {
                if (core.receive(KEYS, v)) {
                    used++;
                }
                core.settle();
            }
        }

        void show(int v) {
            if (shown < outputs.length) {
                outputs[shown] = v;
            }
            shown++;
        }

        void round() {
            for (int p = 0; p < PROCESSORS; p++) {
                if (cores[p] != null) {
                    cores[p].step();
                }
            }
            pulse();
        }

        /** A beat: how many packets went. */
        int pulse() {
            int went = 0;
            for (int l = 0; l < program.linkCount; l++) {
                Link link = linkAt(l);
                if (link != null && link.isBusy()) {
                    carry(link, l);
                    went++;
                }
            }
            beats++;
            packets += went;
            for (int p = 0; p < PROCESSORS; p++) {
                if (cores[p] != null) {
                    cores[p].settle();
                }
            }
            return went;
        }

        private void carry(Link link, int l) {
            if (!link.due) {
                link.came++;
                link.free = false;
                link.due = link.came < 4;
                Core taker = coreAt(link.to);
                if (link.came == 4 && taker != null && taker.receive(l, link.value)) {
                    link.take();
                }
                return;
            }
            link.due = false;
            if (link.came < 4) {
                link.free = true;
                return;
            }
            link.clear();
            Core sender = coreAt(link.from);
            if (sender != null) {
                sender.release(l);
            }
        }

        int result() {
            boolean done = true;
            boolean idle = true;
            for (int p = 0; p < PROCESSORS; p++) {
                Core core = cores[p];
                if (core != null) {
                    if (core.error != 0) {
                        return 3;
                    }
                    done = done && core.done != 0;
                    idle = idle && !core.runs;
                }
            }
            if (done) {
                return 1;
            }
            for (int l = 0; l < program.linkCount && idle; l++) {
                Link link = linkAt(l);
                idle = link == null || !link.isBusy();
            }
            return idle ? 2 : 0;
        }
    }

    private static final class Link {
        final int from;
        final int to;
        int value;
        boolean sending;
        /** Bytes of the word that came. */
        int came;
        boolean taken;
        /** An acknowledgement is due. */
        boolean due;
        /** A byte may go. */
        boolean free;

        Link(int from, int to) {
            this.from = from;
            this.to = to;
        }

        void clear() {
            value = 0;
            sending = false;
            came = 0;
            taken = false;
            due = false;
            free = false;
        }

        void load(int v) {
            clear();
            value = v;
            sending = true;
            free = true;
        }

        boolean isBusy() {
            return due || free;
        }

        boolean isWhole() {
            return came == 4 && !taken;
        }

        void take() {
            taken = true;
            due = true;
        }
    }

    /** A core: its registers, its memory, the process that runs and those that are ready. */
    private static final class Core {
        private static final int SLICE = 64;
        private static final int LOW = 1;

        private final Machine machine;
        final byte[] code;
        final int start;
        final int firstW;
        final int[] memory;
        private int a;
        private int b;
        private int c;
        private int i;
        private int w;
        private int o;
        boolean runs;
        private int priority;
        int error;
        int done;
        /** The ready ones, HIGH ones first. */
        final int[] rows;
        int waiting;
        private int highs;
        private int did;
        private int since;
        /** The first LOW one was put aside: its A, B, C, O. */
        private boolean aside;
        private final int[] kept = new int[4];

        Core(Machine machine, byte[] code, int start, Node root) {
            this.machine = machine;
            this.code = code;
            this.start = start;
            this.firstW = PORTS + root.depth + 3;
            int words = Math.max(0, Math.min(root.size + root.depth + 3, MOST_WORDS));
            this.memory = new int[PORTS + words];
            this.rows = new int[words / 4 + 2];
        }

        void reset() {
            Arrays.fill(memory, 0);
            for (int k = 0; k <= KEYS; k++) {
                poke(k, NONE);
            }
            clearRegisters();
            error = 0;
            done = 0;
            waiting = 0;
            highs = 0;
            did = 0;
            aside = false;
            runs = true;
            priority = LOW;
            i = start;
            w = firstW;
        }

        private void clearRegisters() {
            a = 0;
            b = 0;
            c = 0;
            i = 0;
            w = 0;
            o = 0;
            since = 0;
        }

        int register(int what) {
            switch (what) {
                case 0: return a;
                case 1: return b;
                case 2: return c;
                case 3: return i;
                case 4: return w;
                case 5: return o;
                default: return since;
            }
        }

        int state(int what) {
            switch (what) {
                case 6: return runs ? self() : NONE;
                case 7: return error;
                case 8: return done;
                case 9: return highs;
                case 10: return waiting - highs;
                default: return did;
            }
        }

        int decode(int k, int what) {
            int operand = 0;
            for (int at = Math.max(k, 0); at < code.length; at++) {
                int function = code[at] >> 4 & 15;
                operand |= code[at] & 15;
                if (function == Coder.PFIX) {
                    operand = operand << 4;
                } else if (function == Coder.NFIX) {
                    operand = ~operand << 4;
                } else {
                    return what == 0 ? function : what == 1 ? operand : at - k + 1;
                }
            }
            return NONE;
        }

        // memory and the stack

        private int peek(int address) {
            return address >= 0 && address < memory.length ? memory[address] : 0;
        }

        private void poke(int address, int v) {
            if (address >= 0 && address < memory.length) {
                memory[address] = v;
            }
        }

        private void push(int v) {
            c = b;
            b = a;
            a = v;
        }

        private void drop() {
            a = b;
            b = c;
        }

        private void dropTwo() {
            drop();
            drop();
        }

        private void replaceTwo(int v) {
            dropTwo();
            push(v);
        }

        // processes

        private int self() {
            return 2 * w + priority;
        }

        private void insert(int at, int descriptor) {
            if (at < 0 || at > waiting || waiting >= rows.length) {
                return;
            }
            System.arraycopy(rows, at, rows, at + 1, waiting - at);
            rows[at] = descriptor;
            waiting++;
            if ((descriptor & 1) != LOW) {
                highs++;
            }
        }

        private void wake(int descriptor) {
            insert((descriptor & 1) == LOW ? waiting : highs, descriptor);
        }

        /** The process is gone or waits: who runs next is told when the byte is done. */
        private void leave() {
            runs = false;
            clearRegisters();
        }

        private void dispatch() {
            if (waiting <= 0) {
                return;
            }
            clearRegisters();
            runs = true;
            int descriptor = rows[0];
            waiting--;
            System.arraycopy(rows, 1, rows, 0, waiting);
            priority = descriptor & 1;
            w = descriptor >> 1;
            i = peek(w - 1);
            if (priority != LOW) {
                highs--;
            } else if (aside) {
                aside = false;
                a = kept[0];
                b = kept[1];
                c = kept[2];
                o = kept[3];
            }
        }

        /** Behind a byte, beat or input: who runs; a LOW process gives way to a HIGH one that has become ready. */
        void settle() {
            if (runs && (priority != LOW || highs == 0)) {
                return;
            }
            if (runs) {
                poke(w - 1, i);
                kept[0] = a;
                kept[1] = b;
                kept[2] = c;
                kept[3] = o;
                aside = true;
                insert(highs, self());
                leave();
            }
            dispatch();
        }

        private void fail() {
            error = 1;
            leave();
        }

        private void waitHere() {
            poke(w - 1, i);
            leave();
        }

        private void waitAt(int channel, int v) {
            poke(channel, self());
            poke(w - 1, i);
            poke(w - 2, v);
            poke(w - 3, 0);
            leave();
        }

        private static boolean isAlt(int mark) {
            return mark >= 1 && mark <= 3;
        }

        /** A process in ALT learns that one of its channels has something for it. */
        private void alert(int descriptor) {
            int mark = (descriptor >> 1) - 3;
            boolean sleeps = peek(mark) == 2;
            poke(mark, 3);
            if (sleeps) {
                wake(descriptor);
            }
        }

        /** A value has come at a link or keys from outside: whether a process took it at once. */
        boolean receive(int channel, int v) {
            int descriptor = peek(channel);
            if (descriptor == NONE) {
                return false;
            }
            int frame = descriptor >> 1;
            if (isAlt(peek(frame - 3))) {
                alert(descriptor);
                return false;
            }
            poke(peek(frame - 2), v);
            release(channel);
            return true;
        }

        /** Who waits at a channel is ready. */
        void release(int channel) {
            int descriptor = peek(channel);
            if (descriptor != NONE) {
                poke(channel, NONE);
                wake(descriptor);
            }
        }

        // bytes

        void step() {
            if (!runs) {
                return;
            }
            if (i < 0 || i >= code.length) {
                fail();
                settle();
                return;
            }
            int now = code[i];
            int function = now >> 4 & 15;
            i++;
            did++;
            since++;
            o |= now & 15;
            if (function == Coder.PFIX) {
                o = o << 4;
            } else if (function == Coder.NFIX) {
                o = ~o << 4;
            } else {
                int operand = o;
                o = 0;
                if (function != Coder.OPR) {
                    perform(function, operand);
                } else if (operand <= Coder.WSUB) {
                    calculate(operand);
                } else if (operand >= Coder.ALT && operand <= Coder.ALTEND) {
                    alternate(operand);
                } else {
                    manage(operand);
                }
            }
            settle();
        }

        private void perform(int function, int operand) {
            switch (function) {
                case Coder.J: jump(operand); break;
                case Coder.LDLP: push(w + operand); break;
                case Coder.LDNL: a = peek(a + operand); break;
                case Coder.LDC: push(operand); break;
                case Coder.LDNLP: a += operand; break;
                case Coder.LDL: push(peek(w + operand)); break;
                case Coder.ADC: a += operand; break;
                case Coder.CALL:
                    w -= 4;
                    poke(w, i);
                    i += operand;
                    break;
                case Coder.CJ:
                    if (a == 0) {
                        i += operand;
                    } else {
                        drop();
                    }
                    break;
                case Coder.AJW: w += operand; break;
                case Coder.EQC: a = a == operand ? 1 : 0; break;
                case Coder.STL:
                    poke(w + operand, a);
                    drop();
                    break;
                case Coder.STNL:
                    poke(a + operand, b);
                    dropTwo();
                    break;
                default:
                    fail();
            }
        }

        private void jump(int operand) {
            i += operand;
            if (priority == LOW && since >= SLICE && waiting > highs) {
                insert(waiting, self());
                waitHere();
            }
        }

        private void calculate(int operation) {
            switch (operation) {
                case Coder.REV:
                    int was = a;
                    a = b;
                    b = was;
                    break;
                case Coder.ADD: replaceTwo(b + a); break;
                case Coder.SUB: replaceTwo(b - a); break;
                case Coder.MUL: replaceTwo(b * a); break;
                case Coder.DIV:
                case Coder.REM:
                    divide(operation);
                    break;
                case Coder.GT: replaceTwo(b > a ? 1 : 0); break;
                case Coder.AND: replaceTwo(b & a); break;
                case Coder.OR: replaceTwo(b | a); break;
                case Coder.SHL: replaceTwo(b << (a & 31)); break;
                case Coder.SHR: replaceTwo(b >>> (a & 31)); break;
                default: replaceTwo(a + b);
            }
        }

        private void divide(int operation) {
            if (a == 0) {
                fail();
                return;
            }
            replaceTwo(operation == Coder.DIV ? b / a : b % a);
        }

        private void manage(int operation) {
            switch (operation) {
                case Coder.CHECK: check(); break;
                case Coder.LDPI: a = i + a; break;
                case Coder.FILL: fill(); break;
                case Coder.STARTP: startProcess(priority); break;
                case Coder.STARTH: startProcess(0); break;
                case Coder.ENDP: endProcess(); break;
                case Coder.STOPP: leave(); break;
                case Coder.RET:
                    i = peek(w);
                    w += 4;
                    break;
                case Coder.IN: takeFrom(); break;
                case Coder.OUT: sendOn(); break;
                case Coder.LDSELF: push(self()); break;
                case Coder.DONE:
                    done = 1;
                    leave();
                    break;
                default: fail();
            }
        }

        private void check() {
            int size = a;
            drop();
            if (a < 0 || a >= size) {
                fail();
            }
        }

        private void fill() {
            int many = Math.min(b, memory.length);
            for (int k = 0; k < many; k++) {
                poke(a + k, c);
            }
            a = 0;
            b = 0;
            c = 0;
        }

        private void startProcess(int itsPriority) {
            int frame = a;
            poke(frame - 1, b);
            poke(frame - 3, 0);
            dropTwo();
            wake(2 * frame + itsPriority);
        }

        private void endProcess() {
            int left = peek(a + 1) - 1;
            poke(a + 1, left);
            if (left == 0) {
                int descriptor = peek(a + 2);
                int frame = descriptor >> 1;
                poke(frame - 1, peek(a));
                poke(frame - 3, 0);
                wake(descriptor);
            }
            leave();
        }

        private void takeFrom() {
            int channel = a;
            int address = b;
            dropTwo();
            Link link = machine.linkAt(channel);
            if (channel == KEYS && machine.hasInput()) {
                poke(address, machine.takeInput());
            } else if (link != null && link.isWhole()) {
                poke(address, link.value);
                link.take();
            } else if (channel < PORTS || peek(channel) == NONE) {
                waitAt(channel, address);
            } else {
                poke(address, peek((peek(channel) >> 1) - 2));
                release(channel);
            }
        }

        private void sendOn() {
            int channel = a;
            int v = b;
            dropTwo();
            Link link = machine.linkAt(channel);
            int other = peek(channel);
            if (channel == SCREEN) {
                machine.show(v);
            } else if (link != null) {
                link.load(v);
                waitAt(channel, v);
            } else if (other == NONE) {
                waitAt(channel, v);
            } else if (isAlt(peek((other >> 1) - 3))) {
                alert(other);
                waitAt(channel, v);
            } else {
                poke(peek((other >> 1) - 2), v);
                release(channel);
            }
        }

        /** Whether an IN would get something at once. */
        private boolean offers(int channel) {
            Link link = machine.linkAt(channel);
            if (channel == KEYS) {
                return machine.hasInput();
            }
            if (link != null) {
                return link.isWhole();
            }
            return peek(channel) != NONE && peek(channel) != self();
        }

        private void alternate(int operation) {
            switch (operation) {
                case Coder.ALT:
                    poke(w - 3, 1);
                    poke(w, NONE);
                    break;
                case Coder.ENBC: enable(); break;
                case Coder.ENBS:
                    if (a != 0) {
                        poke(w - 3, 3);
                    }
                    break;
                case Coder.ALTWT:
                    if (peek(w - 3) != 3) {
                        poke(w - 3, 2);
                        waitHere();
                    }
                    break;
                case Coder.DISC: disable(); break;
                case Coder.DISS:
                    choose(a, b);
                    dropTwo();
                    break;
                default:
                    poke(w - 3, 0);
                    i += peek(w);
            }
        }

        private void enable() {
            int channel = a;
            drop();
            if (a == 0) {
                return;
            }
            if (offers(channel)) {
                poke(w - 3, 3);
            } else if (peek(channel) == NONE) {
                poke(channel, self());
            }
        }

        private void disable() {
            int channel = a;
            int guard = b;
            int way = c;
            dropTwo();
            drop();
            if (guard == 0) {
                return;
            }
            boolean there = offers(channel);
            if (peek(channel) == self()) {
                poke(channel, NONE);
            }
            choose(there ? 1 : 0, way);
        }

        private void choose(int guard, int way) {
            if (guard != 0 && peek(w) == NONE) {
                poke(w, way);
            }
        }
    }
}
