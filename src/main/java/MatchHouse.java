import java.util.Arrays;

/** A house for a language of tests: modules, values, templates, codes, runs and systems. */
public final class MatchHouse {
    public static final int BAD = -1, NONE = -2, FULL = -3;

    private final Lexer lexer;
    private final Store store;
    private final Types types;
    private final Code code;
    private final Templates templates;
    private final Plan plan;
    private final Reader reader;
    private final Codes codes;
    private final Runner runner;
    private final Systems systems;
    private int fault;
    private int faultPlace;
    private boolean ready;

    public MatchHouse() {
        lexer = new Lexer();
        store = new Store();
        types = new Types();
        code = new Code(store);
        templates = new Templates(code);
        code.templates = templates;
        plan = new Plan();
        reader = new Reader(new Links(lexer, types, templates, code, plan));
        codes = new Codes(lexer, types);
        runner = new Runner(store, types, code, templates, plan);
        systems = new Systems();
        faultPlace = BAD;
    }

    // ---- the text and the module

    public int feed(int a, int b, int c, int d, int e) {
        return lexer.append(a, b, c, d, e);
    }

    public int end(int n) {
        return lexer.cut(n);
    }

    public int module() {
        store.kept = 0;
        runner.close();
        reader.readModule();
        fault = lexer.fault;
        faultPlace = fault == 0 ? BAD : lexer.faultPlace;
        ready = fault == 0;
        if (ready) {
            types.settle();
            templates.settle();
        }
        return fault;
    }

    public int count(int what) {
        switch (what) {
            case 0: return fault;
            case 1: return faultPlace;
            case 2: return lexer.length;
            case 3: return ready ? types.told : 0;
            case 4: return ready ? templates.told : 0;
            case 5: return ready ? plan.kinds : 0;
            case 6: return ready ? plan.units : 0;
            case 7: return ready ? plan.stepCount : 0;
            case 8: return ready ? reader.moduleNodes : 0;
            case 9: return store.kept;
            case 10: return codes.bitCount;
            default: return BAD;
        }
    }

    // ---- values and types

    public int value() {
        if (!ready) return BAD;
        if (store.kept >= Store.KEPT_MOST) return FULL;
        int error = reader.workValue();
        fault = lexer.fault;
        faultPlace = fault == 0 ? BAD : lexer.faultPlace;
        if (fault != 0) return -10 - fault;
        return error != 0 ? -20 - error : store.keep(code.stack, code.topAt());
    }

    public int named() {
        return ready ? lexer.meaningOfText() : BAD;
    }

    public int drop() {
        if (store.kept <= 0) return BAD;
        store.kept--;
        return store.kept;
    }

    public int about(int v, int what) {
        if (!isKept(v) || what < 0 || what > 3) return BAD;
        long cell = store.cells[keptAt(v)];
        switch (what) {
            case 0: return Store.kind(cell);
            case 1: return Store.size(cell);
            case 2: return Store.extent(cell);
            default: return Store.plain(cell);
        }
    }

    public int alike(int v, int w) {
        if (!isKept(v) || !isKept(w)) return BAD;
        return Store.same(store.cells, keptAt(v), store.cells, keptAt(w)) ? 1 : 0;
    }

    public int fits(int v, int type) {
        if (!isKept(v) || !isType(type)) return BAD;
        return types.holds(store.cells, keptAt(v), types.roots[type]) ? 1 : 0;
    }

    public int within(int type, int other) {
        if (!isType(type) || !isType(other)) return BAD;
        return types.inside(type, other) ? 1 : 0;
    }

    public long many(int type, int weight) {
        if (!isType(type) || weight < 1 || weight > Types.COUNTED) return BAD;
        return types.ways(type, weight);
    }

    public int lightest(int type) {
        if (!isType(type)) return BAD;
        int least = types.least[types.roots[type]];
        return least > Store.HEAVIEST ? NONE : least;
    }

    public int tell(int v) {
        if (!isKept(v)) return BAD;
        return codes.writeText(store.cells, keptAt(v));
    }

    public int letter(int i) {
        return i < 0 || i >= codes.handSize ? NONE : codes.hand[i];
    }

    // ---- templates

    public int met(int template, int v) {
        if (!ready || template < 0 || template >= templates.told || !isKept(v)) return BAD;
        int error = templates.table[template][Templates.WRONG];
        if (error != 0) return -20 - error;
        int root = templates.table[template][Templates.ROOT];
        if (templates.meets(root, store.cells, keptAt(v))) return 1;
        templates.explain(root);
        return 0;
    }

    public int why(int i) {
        return i < 0 || i >= templates.whyCount ? NONE : templates.whys[i];
    }

    // ---- codes

    public int encode(int v, int type) {
        if (!isKept(v) || !isType(type)) return BAD;
        int root = types.roots[type];
        if (!types.holds(store.cells, keptAt(v), root)) return NONE;
        return codes.writeBits(store.cells, keptAt(v), root);
    }

    public int bit(int i) {
        return i < 0 || i >= codes.bitCount ? NONE : codes.row[i];
    }

    public int bits(int b, int n) {
        if (n < 0 || n > 32) return BAD;
        if (codes.bitCount + n > Codes.BITS) return FULL;
        codes.put(b, n);
        return codes.bitCount;
    }

    public int noBits() {
        int were = codes.bitCount;
        codes.bitCount = 0;
        return were;
    }

    public int decode(int type) {
        if (!isType(type)) return BAD;
        if (store.kept >= Store.KEPT_MOST) return FULL;
        int wrong = codes.read(types.roots[type]);
        return wrong >= 0 ? -10 - wrong : store.keep(codes.out, 0);
    }

    // ---- runs

    public int begin(int f) {
        if (!ready || f < 0 || f >= plan.units || plan.unitSort[f] != Plan.CASE) return BAD;
        return runner.open(f) ? 1 : 0;
    }

    public int run(int c, int n) {
        if (!isPart(c) || n < 0 || n > 10_000) return BAD;
        int done = 0;
        while (done < n && runner.advance(c)) {
            done++;
        }
        return done;
    }

    public int clock(int n) {
        if (!runner.open || n < 0 || n > 1_000_000_000) return BAD;
        if (runner.time + n > Runner.LATEST) return 0;
        runner.time += n;
        return 1;
    }

    public int give(int c, int port, int v) {
        if (!isPort(c, port) || !isKept(v)) return BAD;
        if (!store.canBeGiven(keptAt(v))) return BAD;
        return runner.arrive(runner.parts[c], port, -1, store.cells, keptAt(v)) ? 1 : 0;
    }

    public int state(int c, int what) {
        if (!isPart(c)) return BAD;
        Part part = runner.parts[c];
        switch (what) {
            case 0: return part.status;
            case 1: return part.judgement;
            case 2: return part.kind;
            case 3: return part.frames;
            case 4: return part.frames > 0 && part.frameNext[part.frames - 1] >= 0 ? part.frameNext[part.frames - 1] : NONE;
            case 5: return part.usuals;
            case 6: return part.steps;
            case 7: return part.error;
            default: return BAD;
        }
    }

    public long all(int what) {
        if (!runner.open) return BAD;
        switch (what) {
            case 0: return runner.made;
            case 1: return runner.time;
            case 2: return runner.worst();
            case 3: return store.logged;
            case 4: return store.sentOut;
            case 5: return runner.canGoOn() ? 0 : 1;
            default: return BAD;
        }
    }

    public int queue(int c, int port) {
        return isPort(c, port) ? runner.parts[c].held[port] : BAD;
    }

    public int queued(int c, int port, int i) {
        if (!isPort(c, port)) return BAD;
        Part part = runner.parts[c];
        if (i < 0 || i >= part.held[port]) return NONE;
        return store.keep(store.cells, part.queueSlot(port, i) * Store.HEAVIEST);
    }

    public int timer(int c, int i) {
        if (!isPart(c)) return BAD;
        Part part = runner.parts[c];
        if (i < 0 || i >= plan.timerCount[part.kind]) return BAD;
        if (part.due[i] < 0) return NONE;
        return (int) Math.max(0, part.due[i] - runner.time);
    }

    public int variable(int c, int place) {
        if (!isPart(c)) return BAD;
        int slot = runner.slotOfPlace(runner.parts[c], place);
        if (slot < 0 || store.sizes[slot] == 0) return NONE;
        return store.keep(store.cells, slot * Store.HEAVIEST);
    }

    public int event(int k, int what) {
        if (!runner.open || k < 0 || k >= Math.min(store.logged, Store.LOG_MOST) || what < 0 || what > 2) return BAD;
        return store.log[k][what];
    }

    public int eventValue(int k) {
        if (!runner.open || k < 0 || k >= Math.min(store.logged, Store.LOG_MOST)) return NONE;
        int slot = Store.LOGGED + k;
        return store.sizes[slot] == 0 ? NONE : store.keep(store.cells, slot * Store.HEAVIEST);
    }

    // ---- systems

    public int move(int m, int from, int act, int to, boolean is) {
        if (!Systems.is(m) || from < 0 || from > 7 || act < 0 || act > 7 || to < 0 || to > 7) return BAD;
        return systems.put(m, from, act, to, is) ? 1 : 0;
    }

    public int conforms(int m, int n) {
        if (!Systems.is(m) || !Systems.is(n)) return BAD;
        return systems.follows(m, n) ? 1 : 0;
    }

    public int row(int i) {
        if (i == -1) return systems.length;
        return i < 0 || i >= systems.length ? NONE : systems.order[i];
    }

    public int can(int m, int k, int act) {
        if (!Systems.is(m) || k < 0 || k > systems.length || act < 0 || act > 8) return BAD;
        return systems.able(m, k, act) ? 1 : 0;
    }

    private boolean isKept(int v) {
        return v >= 0 && v < store.kept;
    }

    private static int keptAt(int v) {
        return (Store.KEPT + v) * Store.HEAVIEST;
    }

    private boolean isType(int type) {
        return ready && type >= 0 && type < types.told;
    }

    private boolean isPart(int c) {
        return runner.open && c >= 0 && c < runner.made;
    }

    private boolean isPort(int c, int port) {
        return isPart(c) && port >= 0 && port < plan.portCount[runner.parts[c].kind];
    }

    /** The text, the row of its tokens, and the words that stand in the module's text. */
    static final class Lexer {
        static final int MOST = 12_000;
        static final int WORD = 1, NUMBER = 2, TEXT = 3, END = 4, STOP = 5;
        static final int DOTS = 10, ASSIGN = 11, EQUAL = 12, UNEQUAL = 13, ATMOST = 14, ATLEAST = 15, AND = 16, OR = 17;
        static final int TYPE = 200, TEMPLATE = 201, COMPONENT = 202, FUNCTION = 203, ALTSTEP = 204, CASE = 205, ON = 206,
            PORT = 207, TIMER = 208, VAR = 209, INT = 210, BOOL = 211, TEXTS = 212, ENUM = 213, RECORD = 214, CHOICE = 215,
            LIST = 216, OF = 217, OPTIONAL = 218, LENGTH = 219, IFPRESENT = 220, TRUE = 221, FALSE = 222, OMIT = 223,
            NOT = 224, BOTH = 225, PATTERN = 226, SUBSET = 227, SUPERSET = 228, PERM = 229, SIZE = 230, ME = 231, NOW = 232,
            VERDICT = 233, MET = 234, ENDED = 235, ACTIVE = 236, IF = 237, ELSE = 238, WHILE = 239, RETURN = 240, CALL = 241,
            INTO = 242, SET = 243, PASS = 244, INCONC = 245, FAIL = 246, LOG = 247, SEND = 248, ALT = 249, BEGIN = 250,
            HALT = 251, CREATE = 252, START = 253, AS = 254, CONNECT = 255, AT = 256, WITH = 257, STOPS = 258, USUAL = 259,
            UNUSUAL = 260, STEP = 261, RECEIVE = 262, FROM = 263, TIMEOUT = 264, DONE = 265;
        /** How many words are reserved: the first ones of all, in the order of their tokens. */
        static final int RESERVED = 66;
        private static final String RESERVED_WORDS = "type template component function altstep case on port timer var int bool text enum record choice list of optional length ifpresent true false omit not both pattern subset superset perm size me now verdict met ended active if else while return call into set pass inconc fail log send alt begin halt create start as connect at with stop usual unusual step receive from timeout done ";
        // Words of up to twelve signs in 12,000 bytes: fewer than 3,900 of them differ; twice, for value()'s own.
        private static final int WORDS = 8_000, SLOTS = 16_384;

        private final byte[] text = new byte[MOST];
        int length;
        private int at;
        /** The tokens up to the text's end or the first STOP: their sorts, places and what they tell. */
        private final int[] sorts = new int[MOST + 1];
        private final int[] places = new int[MOST + 1];
        private final long[] tellings = new long[MOST + 1];
        private int tokens;
        // The token that is looked at.
        private int current;
        int token;
        int place;
        /** Of a WORD its number, of a NUMBER itself, of a TEXT how many signs. */
        long telling;
        int fault;
        int faultPlace;
        int words;
        final int[] meaning = new int[WORDS];
        final boolean[] inEnum = new boolean[WORDS];
        private final long[] heads = new long[WORDS];
        private final int[] tails = new int[WORDS];
        private final int[] slotOf = new int[WORDS];
        private final int[] slots = new int[SLOTS];

        Lexer() {
            int from = 0;
            for (int i = 0; i < RESERVED_WORDS.length(); i++) {
                text[i - from] = (byte) RESERVED_WORDS.charAt(i);
                if (RESERVED_WORDS.charAt(i) == ' ') {
                    wordOf(0, i - from);
                    from = i + 1;
                }
            }
        }

        int append(int a, int b, int c, int d, int e) {
            if (length + 20 > MOST) return FULL;
            append4(a);
            append4(b);
            append4(c);
            append4(d);
            append4(e);
            return length;
        }

        private void append4(int n) {
            for (int shift = 24; shift >= 0; shift -= 8) {
                text[length] = (byte) (n >>> shift);
                length++;
            }
        }

        int cut(int n) {
            if (n < 0 || n > 20 || length < 20) return BAD;
            length = length - 20 + n;
            return length;
        }

        /** The number of what is told in the module by the one WORD that is the text, which is empty then. */
        int meaningOfText() {
            int known = words;
            scan();
            int word = token == WORD ? word() : 0;
            advance();
            int found = token == END && meaning[word] > 0 ? meaning[word] - 1 : NONE;
            forget(known);
            length = 0;
            return found;
        }

        // ---- tokens

        /** Finds all tokens, up to the first that is none; the first one is looked at then. */
        void scan() {
            tokens = 0;
            at = 0;
            int sort = 0;
            for (int i = 0; i <= MOST && sort != END && sort != STOP; i++) {
                skipBlanks();
                telling = 0;
                places[i] = at;
                sort = at >= length ? END : readToken(text[at] & 255);
                sorts[i] = sort;
                tellings[i] = telling;
                tokens++;
            }
            fault = 0;
            faultPlace = 0;
            current = -1;
            advance();
        }

        /** The next token is looked at; behind the last one, or a fault, there is none. */
        void advance() {
            if (fault != 0 || current + 1 >= tokens) return;
            current++;
            token = sorts[current];
            place = places[current];
            telling = tellings[current];
            if (token == STOP) {
                fault = 1;
                faultPlace = place;
            }
        }

        /** The first fault stays; behind it no token is any more. */
        void fail(int which) {
            if (fault != 0) return;
            fault = which;
            faultPlace = place;
            token = STOP;
        }

        void need(int sort) {
            if (token == sort) advance();
            else fail(2);
        }

        boolean take(int sort) {
            if (token != sort) return false;
            advance();
            return true;
        }

        int word() {
            return (int) telling;
        }

        /** A sign of the TEXT that is looked at. */
        int signOfText(int i) {
            int k = place + 1 + i;
            return k >= 0 && k < MOST ? text[k] & 127 : 32;
        }

        private void skipBlanks() {
            boolean note = false;
            for (; at < length; at++) {
                int c = text[at] & 255;
                if (c == 10) note = false;
                else if (c == '#') note = true;
                else if (!note && c != 9 && c != 13 && c != 32) return;
            }
        }

        private int readToken(int c) {
            if (isLetter(c)) return readWord();
            if (isDigit(c)) return readNumber();
            if (c == '"') return readText();
            int next = at + 1 < length ? text[at + 1] & 255 : 0;
            int pair = pairOf(c, next);
            at += pair != 0 ? 2 : 1;
            return pair != 0 ? pair : isSign(c) ? c : STOP;
        }

        private static boolean isLetter(int c) {
            return c >= 'a' && c <= 'z' || c >= 'A' && c <= 'Z';
        }

        private static boolean isDigit(int c) {
            return c >= '0' && c <= '9';
        }

        private int readWord() {
            int start = at;
            while (at < length && (isLetter(text[at] & 255) || isDigit(text[at] & 255) || text[at] == '_')) {
                at++;
            }
            if (at - start > 12) return STOP;
            int word = wordOf(start, at);
            telling = word;
            return word < RESERVED ? TYPE + word : WORD;
        }

        private int readNumber() {
            int start = at;
            while (at < length && isDigit(text[at] & 255)) {
                if (at - start < 15) telling = telling * 10 + (text[at] - '0');
                at++;
            }
            return at - start > 15 ? STOP : NUMBER;
        }

        private int readText() {
            int start = at + 1;
            at = start;
            while (at < length && text[at] >= 32 && text[at] <= 126 && text[at] != '"') {
                at++;
            }
            telling = at - start;
            boolean whole = at < length && text[at] == '"' && telling <= 40;
            at++;
            return whole ? TEXT : STOP;
        }

        private static int pairOf(int c, int next) {
            if (c == '.' && next == '.') return DOTS;
            if (c == '&' && next == '&') return AND;
            if (c == '|' && next == '|') return OR;
            if (next != '=') return 0;
            switch (c) {
                case ':': return ASSIGN;
                case '=': return EQUAL;
                case '!': return UNEQUAL;
                case '<': return ATMOST;
                case '>': return ATLEAST;
                default: return 0;
            }
        }

        private static boolean isSign(int c) {
            switch (c) {
                case '(': case ')': case '{': case '}': case '[': case ']': case ',': case ';': case '.': case ':': case '?':
                case '*': case '+': case '-': case '/': case '%': case '=': case '<': case '>': case '&': case '!': case '@':
                    return true;
                default:
                    return false;
            }
        }

        // ---- words

        /** The number of the word that stands there in the text; a new one is taken in. */
        private int wordOf(int from, int to) {
            long head = packed(from, Math.min(to, from + 8));
            int tail = (int) packed(from + 8, to);
            long mixed = (head ^ (long) tail * 0x5851F42D4C957F2DL) * 0x9E3779B97F4A7C15L;
            int start = (int) (mixed >>> 50) & (SLOTS - 1);
            for (int i = 0; i < SLOTS; i++) {
                int slot = (start + i) & (SLOTS - 1);
                int id = slots[slot] - 1;
                if (id < 0) return addWord(head, tail, slot);
                if (heads[id] == head && tails[id] == tail) return id;
            }
            return RESERVED;
        }

        private long packed(int from, int to) {
            long n = 0;
            for (int i = from; i < to; i++) {
                n = n << 8 | text[i] & 255;
            }
            return n;
        }

        private int addWord(long head, int tail, int slot) {
            if (words >= WORDS) return RESERVED;
            int id = words;
            words++;
            heads[id] = head;
            tails[id] = tail;
            slotOf[id] = slot;
            slots[slot] = id + 1;
            meaning[id] = 0;
            inEnum[id] = false;
            return id;
        }

        /** Only the first n words stay. */
        void forget(int n) {
            while (words > n && words > 0) {
                words--;
                slots[slotOf[words]] = 0;
            }
        }

        /** Writes the word behind the first `size` bytes: how many there are then. */
        int writeWord(int id, byte[] bytes, int size) {
            if (id < 0 || id >= words) return size;
            int n = size;
            for (int i = 0; i < 12; i++) {
                // A word's signs stand at the right ends of its eight and four bytes.
                int sign = i < 8 ? (int) (heads[id] >>> (56 - 8 * i)) & 255 : tails[id] >>> (88 - 8 * i) & 255;
                if (sign != 0 && n < bytes.length) {
                    bytes[n] = (byte) sign;
                    n++;
                }
            }
            return n;
        }
    }

    /**
     * Values and the log. A VALUE of weight W is W cells (longs) in a row, its whole ahead of its parts and a RECORD's fields
     * by name, so VALUES are alike when their cells are.
     */
    static final class Store {
        static final int NUMBER = 0, TRUTH = 1, TEXT = 2, WORD = 3, OMIT = 4, COMPONENT = 5, RECORD = 6, CHOICE = 7, LIST = 8,
            FIELD = 9, SIGNS = 10;
        static final int HEAVIEST = 120, KEPT_MOST = 40, LOG_MOST = 300, LONGEST = 16;
        static final long FAR = 1_000_000_000_000_000L;
        /** OMIT as a VALUE. */
        static final long OMITTED = 1 << 4 | OMIT;
        // Slots hold a VALUE each: vars and frames of components, what is looked at, usual ways, queues, log, kept.
        static final int VARS = 0, VARS_EACH = 72, LOOKED = 576, USUAL = 608, QUEUES = 864, LOGGED = 1248, KEPT = 1548, OMITS = 1588, SLOTS = 1589;

        final long[] cells = new long[SLOTS * HEAVIEST];
        final int[] sizes = new int[SLOTS];
        int kept;
        final int[][] log = new int[LOG_MOST][3];
        int logged;
        int sentOut;

        Store() {
            cells[OMITS * HEAVIEST] = OMITTED;
            sizes[OMITS] = 1;
        }

        // A cell tells, from its lowest bits on: its kind (4), its VALUE's size (8), and a number, truth, length, count or word.

        static int kind(long cell) {
            return (int) cell & 15;
        }

        /** How many cells the VALUE that begins with this cell has: its WEIGHT. */
        static int size(long cell) {
            return (int) cell >> 4 & 255;
        }

        static long told(long cell) {
            return cell >> 12;
        }

        static int partsOf(long cell) {
            return (int) (cell >> 12);
        }

        static int wordOf(long cell) {
            return (int) (cell >> 12);
        }

        static long cell(int kind, int size, long told) {
            return told << 12 | (long) size << 4 | kind;
        }

        static long plainCell(int kind, long told) {
            return told << 12 | 1 << 4 | kind;
        }

        static long textCell(int signs) {
            return (long) signs << 12 | (long) (1 + (signs + 7) / 8) << 4 | TEXT;
        }

        /** Of a TEXT its signs, of a LIST its elements, of a RECORD its fields. */
        static int extent(long cell) {
            int kind = (int) cell & 15;
            return kind == TEXT || kind == LIST || kind == RECORD ? (int) (cell >> 12) : 0;
        }

        static int plain(long cell) {
            int kind = kind(cell);
            if (kind != NUMBER && kind != TRUTH && kind != COMPONENT) return 0;
            return (int) Math.max(Integer.MIN_VALUE, Math.min(Integer.MAX_VALUE, told(cell)));
        }

        static boolean same(long[] a, int i, long[] b, int j) {
            int size = (int) a[i] >> 4 & 255;
            if (a[i] != b[j] || i + size > a.length || j + size > b.length) return false;
            for (int k = 1; k < size; k++) {
                if (a[i + k] != b[j + k]) return false;
            }
            return true;
        }

        /** Sign i of the TEXT whose first cell is at `at`. */
        static int sign(long[] a, int at, int i) {
            return (int) (a[at + 1 + i / 8] >> (4 + 7 * (i % 8))) & 127;
        }

        static void putSign(long[] a, int at, int i, int sign) {
            int cell = at + 1 + i / 8;
            if (i % 8 == 0) a[cell] = SIGNS;
            a[cell] |= (long) sign << (4 + 7 * (i % 8));
        }

        /** Where the VALUE of a RECORD's field stands, or - 1. */
        static int fieldAt(long[] a, int at, int word) {
            int n = (int) (a[at] >> 12);
            int pos = at + 1;
            for (int k = 0; k < n; k++) {
                if ((int) (a[pos] >> 12) == word) return pos + 1;
                pos += 1 + ((int) a[pos + 1] >> 4 & 255);
            }
            return -1;
        }

        /** Where element i (0 .. their number) of a LIST stands, or would stand. */
        static int elementAt(long[] a, int at, int i) {
            int pos = at + 1;
            for (int k = 0; k < i && k < LONGEST; k++) {
                pos += (int) a[pos] >> 4 & 255;
            }
            return pos;
        }

        /** Puts a RECORD's fields in the order of their words. */
        static void sortFields(long[] a, int at, long[] spare) {
            int n = (int) (a[at] >> 12);
            int size = 0;
            int last = -1;
            for (int k = 0; k < n; k++) {
                int least = -1;
                int pos = at + 1;
                for (int i = 0; i < n; i++) {
                    int word = (int) (a[pos] >> 12);
                    if (word > last && (least < 0 || word < (int) (a[least] >> 12))) least = pos;
                    pos += 1 + ((int) a[pos + 1] >> 4 & 255);
                }
                if (least < 0) return;
                int part = 1 + ((int) a[least + 1] >> 4 & 255);
                if (size + part > spare.length) return;
                System.arraycopy(a, least, spare, size, part);
                size += part;
                last = (int) (a[least] >> 12);
            }
            System.arraycopy(spare, 0, a, at + 1, size);
        }

        void put(int slot, long[] a, int at) {
            int size = size(a[at]);
            System.arraycopy(a, at, cells, slot * HEAVIEST, size);
            sizes[slot] = size;
        }

        /** Where a slot's VALUE is; OMIT, if it has none. */
        int placeOf(int slot) {
            boolean has = slot >= 0 && slot < SLOTS && sizes[slot] != 0;
            return (has ? slot : OMITS) * HEAVIEST;
        }

        /** As slot `to` so slot `from`. */
        void copy(int from, int to) {
            System.arraycopy(cells, from * HEAVIEST, cells, to * HEAVIEST, sizes[from]);
            sizes[to] = sizes[from];
        }

        void empty(int from, int howMany) {
            for (int i = 0; i < howMany; i++) {
                sizes[from + i] = 0;
            }
        }

        int keep(long[] a, int at) {
            if (kept >= KEPT_MOST) return FULL;
            put(KEPT + kept, a, at);
            kept++;
            return kept - 1;
        }

        /** Whether a VALUE may come from outside: no OMIT, no component in it. */
        boolean canBeGiven(int at) {
            int size = size(cells[at]);
            if (kind(cells[at]) == OMIT) return false;
            for (int i = 0; i < size; i++) {
                if (kind(cells[at + i]) == COMPONENT) return false;
            }
            return true;
        }

        void clearLog() {
            logged = 0;
            sentOut = 0;
        }

        void note(int sort, int part, int what) {
            if (logged < LOG_MOST) {
                log[logged][0] = sort;
                log[logged][1] = part;
                log[logged][2] = what;
                sizes[LOGGED + logged] = 0;
            }
            logged++;
        }

        void noteValue(int sort, int part, int what, long[] a, int at) {
            note(sort, part, what);
            if (logged <= LOG_MOST) put(LOGGED + logged - 1, a, at);
        }
    }

    /** The module's types: what FITS them, which are WITHIN which, how many VALUES they have. */
    static final class Types {
        static final int INT = 1, BOOL = 2, TEXT = 3, ENUM = 4, RECORD = 5, CHOICE = 6, LIST = 7, NAME = 8, FIELD = 9, RANGE = 10;
        static final int TYPES = 60, COUNTED = 20, NEVER = 2_000_000;
        static final long CEILING = 4_000_000_000_000_000_000L;
        private static final int NODES = 3_001, WORDS = 6_002, HUGE = 1_000_000, LINE = 47;

        final int[] kind = new int[NODES];
        /** The first part: a range, field or type; of an ENUM the place of its first word. */
        final int[] first = new int[NODES];
        final int[] next = new int[NODES];
        final int[] word = new int[NODES];
        /** Of a NAME the type's number, of a FIELD 1 if it is optional, of an ENUM, RECORD, CHOICE, INT how many parts. */
        final int[] link = new int[NODES];
        final long[] low = new long[NODES];
        final long[] high = new long[NODES];
        final int[] least = new int[NODES];
        int nodes;
        final int[] members = new int[WORDS];
        int memberCount;
        final int[] roots = new int[TYPES];
        final int[] places = new int[TYPES];
        int told;
        private final long[] ways = new long[NODES * (COUNTED + 1)];
        /** The weight up to which VALUES are counted. */
        private int counted;
        private final long[] sums = new long[2 * (COUNTED + 1)];
        // Pairs of a told type and a node that are to be held against each other, and those that have been.
        private final long[] marked = new long[TYPES * LINE];
        private final long[] done = new long[TYPES * LINE];
        private final int[] pairs = new int[1_000];
        private final int[] wanted = new int[Store.HEAVIEST];

        void clear() {
            nodes = 0;
            memberCount = 0;
            told = 0;
        }

        int add(int sort) {
            if (nodes >= NODES) return NODES - 1;
            int n = nodes;
            nodes++;
            kind[n] = sort;
            first[n] = -1;
            next[n] = -1;
            word[n] = -1;
            link[n] = 0;
            low[n] = 0;
            high[n] = 0;
            return n;
        }

        /** The type's number behind all names that are but names. */
        private int lastNamed(int type) {
            int t = type;
            for (int i = 0; i < TYPES && kind[roots[t]] == NAME; i++) {
                t = link[roots[t]];
            }
            return t;
        }

        int resolve(int node) {
            return kind[node] == NAME ? roots[lastNamed(link[node])] : node;
        }

        /** Whether a type is, by names alone, itself. */
        boolean isItself(int type) {
            int t = type;
            for (int i = 0; i < TYPES; i++) {
                if (kind[roots[t]] != NAME) return false;
                t = link[roots[t]];
                if (t < 0) return false;
                if (t == type) return true;
            }
            return false;
        }

        /** Works out the least weights; NEVER: there is no VALUE, of whatever weight. */
        void settle() {
            counted = 0;
            Arrays.fill(least, NEVER);
            boolean changed = true;
            for (int round = 0; changed && round <= NODES; round++) {
                changed = false;
                for (int n = nodes - 1; n >= 0; n--) {
                    int weight = leastOf(n);
                    if (weight < least[n]) {
                        least[n] = weight;
                        changed = true;
                    }
                }
            }
        }

        private int leastOf(int n) {
            switch (kind[n]) {
                case INT: case BOOL: case ENUM: return 1;
                case TEXT: return 1 + (int) (low[n] + 7) / 8;
                case NAME: return least[roots[link[n]]];
                case LIST:
                    if (low[n] == 0) return 1;
                    return least[first[n]] >= NEVER ? NEVER : Math.min(HUGE, 1 + (int) low[n] * least[first[n]]);
                case RECORD: return leastOfRecord(n);
                case CHOICE: return leastOfChoice(n);
                default: return NEVER;
            }
        }

        private int leastOfRecord(int n) {
            int weight = 1;
            int f = first[n];
            for (int i = 0; i < link[n] && f >= 0; i++) {
                if (link[f] == 0) {
                    if (least[first[f]] >= NEVER) return NEVER;
                    weight = Math.min(HUGE, weight + 1 + least[first[f]]);
                }
                f = next[f];
            }
            return weight;
        }

        private int leastOfChoice(int n) {
            int weight = NEVER;
            int f = first[n];
            for (int i = 0; i < link[n] && f >= 0; i++) {
                if (least[first[f]] < NEVER) weight = Math.min(weight, Math.min(HUGE, 1 + least[first[f]]));
                f = next[f];
            }
            return weight;
        }

        // ---- FITS

        boolean holds(long[] a, int at, int node) {
            int size = Math.min(Store.size(a[at]), Store.HEAVIEST);
            Arrays.fill(wanted, -1);
            wanted[0] = node;
            for (int i = 0; i < size; i++) {
                if (wanted[i] >= 0 && !holdsHere(a, at, i, resolve(wanted[i]))) return false;
            }
            return true;
        }

        private boolean holdsHere(long[] a, int at, int i, int node) {
            long cell = a[at + i];
            int sort = Store.kind(cell);
            switch (kind[node]) {
                case INT: return sort == Store.NUMBER && inRanges(node, Store.told(cell));
                case BOOL: return sort == Store.TRUTH;
                case TEXT: return sort == Store.TEXT && Store.told(cell) >= low[node] && Store.told(cell) <= high[node];
                case ENUM: return sort == Store.WORD && memberOf(node, Store.wordOf(cell)) >= 0;
                case LIST: return sort == Store.LIST && holdsList(a, at, i, node);
                case RECORD: return sort == Store.RECORD && holdsRecord(a, at, i, node);
                case CHOICE:
                    int field = sort == Store.CHOICE ? fieldOf(node, Store.wordOf(cell)) : -1;
                    if (field >= 0) wanted[i + 1] = first[field];
                    return field >= 0;
                default: return false;
            }
        }

        private boolean holdsList(long[] a, int at, int i, int node) {
            int n = Store.partsOf(a[at + i]);
            if (n < low[node] || n > high[node]) return false;
            int pos = i + 1;
            for (int k = 0; k < n; k++) {
                wanted[pos] = first[node];
                pos += Store.size(a[at + pos]);
            }
            return true;
        }

        private boolean holdsRecord(long[] a, int at, int i, int node) {
            int n = Store.partsOf(a[at + i]);
            int needed = 0;
            int f = first[node];
            for (int k = 0; k < link[node] && f >= 0; k++) {
                if (link[f] == 0) needed++;
                f = next[f];
            }
            int pos = i + 1;
            for (int k = 0; k < n; k++) {
                int field = fieldOf(node, Store.wordOf(a[at + pos]));
                if (field < 0) return false;
                if (link[field] == 0) needed--;
                wanted[pos + 1] = first[field];
                pos += 1 + Store.size(a[at + pos + 1]);
            }
            return needed == 0;
        }

        boolean inRanges(int node, long n) {
            if (link[node] == 0) return n >= low[node] && n <= high[node];
            int r = first[node];
            for (int i = 0; i < link[node] && r >= 0; i++) {
                if (n >= low[r] && n <= high[r]) return true;
                r = next[r];
            }
            return false;
        }

        /** Which of an ENUM's words it is, or - 1. */
        int memberOf(int node, int id) {
            for (int i = 0; i < link[node]; i++) {
                if (members[first[node] + i] == id) return i;
            }
            return -1;
        }

        /** The field of this name of a RECORD or CHOICE, or - 1. */
        int fieldOf(int node, int id) {
            int f = first[node];
            for (int i = 0; i < link[node] && f >= 0; i++) {
                if (word[f] == id) return f;
                f = next[f];
            }
            return -1;
        }

        // ---- WITHIN: pairs of types are held against each other once each; what a pair leads to is marked as a pair

        boolean inside(int one, int other) {
            Arrays.fill(marked, 0);
            Arrays.fill(done, 0);
            mark(lastNamed(one), resolve(roots[other]));
            boolean more = true;
            for (int pass = 0; more && pass < 64 * TYPES * LINE; pass++) {
                more = false;
                for (int i = 0; i < TYPES * LINE; i++) {
                    long open = marked[i] & ~done[i];
                    if (open != 0) {
                        more = true;
                        int b = i % LINE * 64 + Long.numberOfTrailingZeros(open);
                        done[i] |= open & -open;
                        if (!treeInside(roots[i / LINE], b)) return false;
                    }
                }
            }
            return true;
        }

        private void mark(int type, int node) {
            marked[type * LINE + node / 64] |= 1L << (node % 64);
        }

        private boolean treeInside(int one, int other) {
            pairs[0] = one;
            pairs[1] = other;
            int top = 1;
            for (int k = 0; top > 0 && k < NODES; k++) {
                top--;
                int a = pairs[2 * top];
                int b = pairs[2 * top + 1];
                if (kind[a] == NAME) mark(lastNamed(link[a]), resolve(b));
                else if (least[a] < NEVER) top = partsInside(a, resolve(b), top);
                if (top < 0) return false;
            }
            return true;
        }

        /** Puts the pairs of parts on top; - 1: not inside. */
        private int partsInside(int a, int b, int top) {
            if (kind[a] != kind[b]) return -1;
            switch (kind[a]) {
                case INT: return rangesInside(a, b) ? top : -1;
                case BOOL: return top;
                case TEXT: return low[b] <= low[a] && high[a] <= high[b] ? top : -1;
                case ENUM:
                    for (int i = 0; i < link[a]; i++) {
                        if (memberOf(b, members[first[a] + i]) < 0) return -1;
                    }
                    return top;
                case LIST:
                    if (high[a] == 0 || least[first[a]] >= NEVER) return low[b] == 0 ? top : -1;
                    if (low[a] < low[b] || high[a] > high[b]) return -1;
                    return pairUp(first[a], first[b], top);
                case RECORD: return neededInside(a, b) ? fieldsInside(a, b, top) : -1;
                case CHOICE: return fieldsInside(a, b, top);
                default: return -1;
            }
        }

        private int pairUp(int a, int b, int top) {
            if (2 * top + 1 >= pairs.length) return -1;
            pairs[2 * top] = a;
            pairs[2 * top + 1] = b;
            return top + 1;
        }

        /** Whether all that b needs is always there in a. */
        private boolean neededInside(int a, int b) {
            int g = first[b];
            for (int i = 0; i < link[b] && g >= 0; i++) {
                if (link[g] == 0) {
                    int f = fieldOf(a, word[g]);
                    if (f < 0 || link[f] != 0) return false;
                }
                g = next[g];
            }
            return true;
        }

        private int fieldsInside(int a, int b, int from) {
            int top = from;
            int f = first[a];
            for (int i = 0; i < link[a] && f >= 0 && top >= 0; i++) {
                if (least[first[f]] < NEVER) {
                    int g = fieldOf(b, word[f]);
                    top = g < 0 ? -1 : pairUp(first[f], first[g], top);
                }
                f = next[f];
            }
            return top;
        }

        private boolean rangesInside(int a, int b) {
            if (link[a] == 0) return stretchInside(low[a], high[a], b);
            int r = first[a];
            for (int i = 0; i < link[a] && r >= 0; i++) {
                if (!stretchInside(low[r], high[r], b)) return false;
                r = next[r];
            }
            return true;
        }

        private boolean stretchInside(long from, long to, int b) {
            if (link[b] == 0) return from >= low[b] && to <= high[b];
            long open = from;
            for (int i = 0; i <= link[b] && open <= to; i++) {
                long end = open - 1;
                int r = first[b];
                for (int k = 0; k < link[b] && r >= 0; k++) {
                    if (low[r] <= open && high[r] > end) end = high[r];
                    r = next[r];
                }
                if (end < open) return false;
                open = end + 1;
            }
            return open > to;
        }

        // ---- how many VALUES of a weight

        long ways(int type, int weight) {
            for (; counted < weight && counted < COUNTED; counted++) {
                for (int n = 0; n < nodes; n++) {
                    ways[n * (COUNTED + 1) + counted + 1] = waysOf(n, counted + 1);
                }
            }
            return waysAt(roots[type], weight);
        }

        private long waysAt(int node, int weight) {
            return weight < 1 ? 0 : ways[resolve(node) * (COUNTED + 1) + weight];
        }

        private long waysOf(int n, int w) {
            switch (kind[n]) {
                case INT: return w == 1 ? numbersOf(n) : 0;
                case BOOL: return w == 1 ? 2 : 0;
                case ENUM: return w == 1 ? link[n] : 0;
                case TEXT: return textsOf(n, w);
                case RECORD: return recordsOf(n, w);
                case CHOICE: return choicesOf(n, w);
                case LIST: return listsOf(n, w);
                default: return 0;
            }
        }

        private long numbersOf(int n) {
            if (link[n] == 0) return high[n] - low[n] + 1;
            long sum = 0;
            long end = -2 * Store.FAR;
            for (int i = 0; i < link[n]; i++) {
                int best = -1;
                int r = first[n];
                for (int k = 0; k < link[n] && r >= 0; k++) {
                    if (high[r] > end && (best < 0 || low[r] < low[best])) best = r;
                    r = next[r];
                }
                if (best >= 0) {
                    sum += high[best] - Math.max(low[best], end + 1) + 1;
                    end = high[best];
                }
            }
            return sum;
        }

        private static long plus(long a, long b) {
            return a >= CEILING - b ? CEILING : a + b;
        }

        private static long times(long a, long b) {
            if (a == 0 || b == 0) return 0;
            return a > CEILING / b ? CEILING : a * b;
        }

        private long textsOf(int n, int w) {
            long sum = 0;
            long power = 1;
            for (int size = 0; size <= 40; size++) {
                if (size >= low[n] && size <= high[n] && 1 + (size + 7) / 8 == w) sum = plus(sum, power);
                power = times(power, 94);
            }
            return sum;
        }

        /** Row 0 of sums: in how many ways the fields so far weigh so much. */
        private long recordsOf(int n, int w) {
            Arrays.fill(sums, 0);
            sums[0] = 1;
            int f = first[n];
            for (int i = 0; i < link[n] && f >= 0; i++) {
                boolean optional = link[f] != 0;
                for (int s = w - 1; s >= 0; s--) {
                    long sum = optional ? sums[s] : 0;
                    for (int x = 1; x < s; x++) {
                        sum = plus(sum, times(sums[s - 1 - x], waysAt(first[f], x)));
                    }
                    sums[s] = sum;
                }
                f = next[f];
            }
            return sums[w - 1];
        }

        private long choicesOf(int n, int w) {
            long sum = 0;
            int f = first[n];
            for (int i = 0; i < link[n] && f >= 0; i++) {
                sum = plus(sum, waysAt(first[f], w - 1));
                f = next[f];
            }
            return sum;
        }

        private long listsOf(int n, int w) {
            Arrays.fill(sums, 0);
            sums[0] = 1;
            long sum = low[n] == 0 ? sums[w - 1] : 0;
            for (int k = 1; k <= high[n] && k < w; k++) {
                for (int s = w - 1; s >= 0; s--) {
                    long lists = 0;
                    for (int x = 1; x <= s; x++) {
                        lists = plus(lists, times(sums[s - x], waysAt(first[n], x)));
                    }
                    sums[s] = lists;
                }
                if (k >= low[n]) sum = plus(sum, sums[w - 1]);
            }
            return sum;
        }
    }

    /** The exps as rows of operations behind their operands, and the stack of VALUES on which they are worked out. */
    static final class Code {
        static final int END = 0, CONST = 1, WORD = 2, LOCAL = 3, OWN = 4, ME = 5, NOW = 6, VERDICT = 7, ACTIVE = 8,
            ENDED = 9, MINUS = 10, NOT = 11, SIZE = 12, TAG = 13, FIELD = 14,
            INDEX = 15, ADD = 16, SUB = 17, MUL = 18, DIV = 19, MOD = 20, JOIN = 21,
            LESS = 22, ATMOST = 23, MORE = 24, ATLEAST = 25, EQUAL = 26, UNEQUAL = 27,
            AND = 28, OR = 29, TRUTH = 30, LIST = 31, RECORD = 32, NAME = 33, SAME = 34, CHECK = 35, MET = 36,
            STEP_FIELD = 37, STEP_INDEX = 38;
        private static final int OPERATIONS = 16_000, POOL = 26_000, VALUES = 3_200, STACK = 48_000;

        final int[] op = new int[OPERATIONS];
        final int[] arg = new int[OPERATIONS];
        int count;
        /** What literals tell, and what the = ( ) of the module's templates are alike to. */
        final long[] pool = new long[POOL];
        int pooled;
        final long[] stack = new long[STACK];
        final int[] at = new int[VALUES + 1];
        int depth;
        private final long[] whole = new long[2 * Store.HEAVIEST];
        private final long[] spare = new long[2 * Store.HEAVIEST];
        private final int[] trail = new int[Store.HEAVIEST + 4];
        private int trailed;
        int error;
        /** The operation at which work() met its error. */
        int stopped;
        /** Whether = ( ) go into the pool: the module's templates are being settled. */
        boolean settling;
        // What an exp sees of the run: its COMPONENT, those that have ENDED by bits, the TIME, the slots of its places.
        Part part;
        int endedParts;
        long now;
        int frame;
        private final Store store;
        Templates templates;

        Code(Store store) {
            this.store = store;
            part = new Part(0);
        }

        int emit(int operation, int argument) {
            if (count >= OPERATIONS) return OPERATIONS - 1;
            op[count] = operation;
            arg[count] = argument;
            count++;
            return count - 1;
        }

        int poolCell(long cell) {
            if (pooled >= POOL) return 0;
            pool[pooled] = cell;
            pooled++;
            return pooled - 1;
        }

        /** A place for a TEXT of so many signs in the pool. */
        int poolText(int signs) {
            int cells = 1 + (signs + 7) / 8;
            if (pooled + cells > POOL) return 0;
            int start = pooled;
            pool[start] = Store.textCell(signs);
            pooled += cells;
            return start;
        }

        void clear() {
            depth = 0;
            at[0] = 0;
        }

        int topAt() {
            return depth > 0 ? at[depth - 1] : 0;
        }

        long top() {
            return stack[topAt()];
        }

        /** The first cell of VALUE i from below. */
        long cellOf(int i) {
            return i >= 0 && i < depth ? stack[at[i]] : Store.OMITTED;
        }

        /** Works out the operations from `start` to the next END: 0 or the ERROR. */
        int work(int start) {
            error = 0;
            stopped = start;
            for (int i = start; i >= 0 && i < count && op[i] != END && error == 0; i++) {
                stopped = i;
                int o = op[i];
                if (o <= ACTIVE) load(o, arg[i]);
                else if (o <= FIELD) unary(o, arg[i]);
                else if (o <= UNEQUAL) binary(o);
                else if (o <= OR) i = Math.max(i, jump(o, i));
                else if (o == MET) hold(arg[i]);
                else gather(o, i);
            }
            return error;
        }

        private void load(int o, int a) {
            switch (o) {
                case CONST: pushFrom(pool, a); break;
                case WORD: pushCell(Store.plainCell(Store.WORD, a)); break;
                case LOCAL: pushFrom(store.cells, store.placeOf(frame + a)); break;
                case OWN: pushFrom(store.cells, store.placeOf(part.varSlot(a))); break;
                case ME: pushCell(Store.plainCell(Store.COMPONENT, part.number)); break;
                case NOW: pushCell(Store.plainCell(Store.NUMBER, now)); break;
                case VERDICT: pushCell(Store.plainCell(Store.NUMBER, part.judgement)); break;
                default: pushCell(truth(a >= 0 && a < Plan.TIMERS && part.due[a] > now)); break;
            }
        }

        static long truth(boolean is) {
            return Store.plainCell(Store.TRUTH, is ? 1 : 0);
        }

        private boolean hasRoom(int cells) {
            if (depth < VALUES && at[depth] + cells <= STACK) return true;
            error = 3;
            return false;
        }

        void pushCell(long cell) {
            if (!hasRoom(1)) return;
            stack[at[depth]] = cell;
            at[depth + 1] = at[depth] + 1;
            depth++;
        }

        void pushFrom(long[] a, int from) {
            int size = Store.size(a[from]);
            if (!hasRoom(size)) return;
            System.arraycopy(a, from, stack, at[depth], size);
            at[depth + 1] = at[depth] + size;
            depth++;
        }

        private void replaceTop(long cell) {
            stack[at[depth - 1]] = cell;
            at[depth] = at[depth - 1] + 1;
        }

        /** The top VALUE becomes a part of itself, or OMIT (from < 0). */
        private void topBecomes(int from) {
            int to = at[depth - 1];
            int size = from < 0 ? 1 : (int) stack[from] >> 4 & 255;
            if (from < 0) stack[to] = Store.OMITTED;
            else System.arraycopy(stack, from, stack, to, size);
            at[depth] = to + size;
        }

        private void unary(int o, int a) {
            if (depth < 1) {
                error = 1;
                return;
            }
            int from = at[depth - 1];
            long cell = stack[from];
            int kind = Store.kind(cell);
            switch (o) {
                case ENDED:
                    if (kind != Store.COMPONENT) error = 1;
                    else replaceTop(truth((endedParts >> Store.told(cell) & 1) != 0));
                    break;
                case MINUS:
                    if (kind != Store.NUMBER) error = 1;
                    else replaceTop(Store.plainCell(Store.NUMBER, -Store.told(cell)));
                    break;
                case NOT:
                    if (kind != Store.TRUTH) error = 1;
                    else replaceTop(truth(Store.told(cell) == 0));
                    break;
                case SIZE:
                    if (kind != Store.TEXT && kind != Store.LIST && kind != Store.RECORD) error = 1;
                    else replaceTop(Store.plainCell(Store.NUMBER, Store.extent(cell)));
                    break;
                case TAG: tagTop(a); break;
                default:
                    if (kind == Store.RECORD) topBecomes(Store.fieldAt(stack, from, a));
                    else if (kind == Store.CHOICE) topBecomes(Store.wordOf(cell) == a ? from + 1 : -1);
                    else error = 1;
                    break;
            }
        }

        private void tagTop(int word) {
            int from = at[depth - 1];
            int size = at[depth] - from;
            if (Store.kind(stack[from]) == Store.OMIT) error = 1;
            else if (size + 1 > Store.HEAVIEST) error = 3;
            if (error != 0 || !hasRoom(1)) return;
            System.arraycopy(stack, from, stack, from + 1, size);
            stack[from] = Store.cell(Store.CHOICE, size + 1, word);
            at[depth] = from + size + 1;
        }

        private void binary(int o) {
            if (depth < 2) {
                error = 1;
                return;
            }
            long a = stack[at[depth - 2]];
            long b = stack[at[depth - 1]];
            if (o == INDEX) index(a, b);
            else if (o == JOIN) join(a, b);
            else if (o >= EQUAL) {
                boolean same = Store.same(stack, at[depth - 2], stack, at[depth - 1]);
                depth--;
                replaceTop(truth(same == (o == EQUAL)));
            } else if (Store.kind(a) != Store.NUMBER || Store.kind(b) != Store.NUMBER) error = 1;
            else if (o >= LESS) {
                depth--;
                replaceTop(truth(isOrdered(o, Store.told(a), Store.told(b))));
            } else reckon(o, Store.told(a), Store.told(b));
        }

        private static boolean isOrdered(int o, long a, long b) {
            switch (o) {
                case LESS: return a < b;
                case ATMOST: return a <= b;
                case MORE: return a > b;
                default: return a >= b;
            }
        }

        private void reckon(int o, long a, long b) {
            long n = 0;
            switch (o) {
                case ADD: n = a + b; break;
                case SUB: n = a - b; break;
                case MUL:
                    if (a != 0 && Math.abs(b) > Store.FAR / Math.abs(a)) error = 3;
                    else n = a * b;
                    break;
                default:
                    if (b == 0) error = 3;
                    else n = o == DIV ? a / b : a % b;
                    break;
            }
            if (Math.abs(n) > Store.FAR) error = 3;
            if (error != 0) return;
            depth--;
            replaceTop(Store.plainCell(Store.NUMBER, n));
        }

        private void index(long a, long b) {
            if (Store.kind(a) != Store.LIST || Store.kind(b) != Store.NUMBER) error = 1;
            else if (Store.told(b) < 0 || Store.told(b) >= Store.partsOf(a)) error = 2;
            if (error != 0) return;
            depth--;
            topBecomes(Store.elementAt(stack, at[depth - 1], (int) Store.told(b)));
        }

        private void join(long a, long b) {
            int kind = Store.kind(a);
            int one = at[depth - 2];
            int other = at[depth - 1];
            int count = Store.extent(a) + Store.extent(b);
            int size = Store.size(a) + Store.size(b) - 1;
            if (kind != Store.kind(b) || kind != Store.TEXT && kind != Store.LIST) error = 1;
            else if (count > (kind == Store.TEXT ? 40 : Store.LONGEST) || kind == Store.LIST && size > Store.HEAVIEST) error = 3;
            if (error != 0) return;
            depth--;
            if (kind == Store.LIST) {
                System.arraycopy(stack, other + 1, stack, other, Store.size(b) - 1);
                stack[one] = Store.cell(Store.LIST, size, count);
                at[depth] = one + size;
                return;
            }
            whole[0] = Store.textCell(count);
            for (int i = 0; i < count; i++) {
                int first = Store.extent(a);
                Store.putSign(whole, 0, i, i < first ? Store.sign(stack, one, i) : Store.sign(stack, other, i - first));
            }
            System.arraycopy(whole, 0, stack, one, Store.size(whole[0]));
            at[depth] = one + Store.size(whole[0]);
        }

        /** && and ||: where to go on, the next operation being one behind. */
        private int jump(int o, int i) {
            if (Store.kind(cellOf(depth - 1)) != Store.TRUTH) {
                error = 1;
                return i;
            }
            boolean is = Store.told(top()) != 0;
            if (is == (o == OR)) return arg[i] - 1;
            depth--;
            return i;
        }

        private void gather(int o, int i) {
            switch (o) {
                case TRUTH:
                    if (Store.kind(cellOf(depth - 1)) != Store.TRUTH) error = 1;
                    break;
                case STEP_INDEX:
                    if (Store.kind(cellOf(depth - 1)) != Store.NUMBER) error = 1;
                    break;
                case LIST: makeList(arg[i]); break;
                case RECORD: makeRecord(arg[i], i + 1); break;
                case SAME: keepSame(arg[i]); break;
                case CHECK:
                    if (!settling) error = templates.wrongOf(arg[i]);
                    break;
                default: break;
            }
        }

        private void makeList(int n) {
            if (n < 0 || n > depth || !hasRoom(1)) return;
            int from = at[depth - n];
            int size = at[depth] - from + 1;
            for (int i = depth - n; i < depth; i++) {
                if (Store.kind(stack[at[i]]) == Store.OMIT) error = 1;
            }
            if (error == 0 && size > Store.HEAVIEST) error = 3;
            if (error != 0) return;
            System.arraycopy(stack, from, stack, from + 1, size - 1);
            stack[from] = Store.cell(Store.LIST, size, n);
            depth -= n;
            at[depth + 1] = from + size;
            depth++;
        }

        /** A RECORD of the n topmost VALUES, whose names are told by the operations from `names` on. */
        private void makeRecord(int n, int names) {
            if (n < 0 || n > depth || !hasRoom(1)) return;
            int base = depth - n;
            int fields = 0;
            int size = 1;
            for (int i = base; i < depth; i++) {
                if (Store.kind(stack[at[i]]) != Store.OMIT) {
                    fields++;
                    size += 1 + at[i + 1] - at[i];
                }
            }
            if (size > Store.HEAVIEST) {
                error = 3;
                return;
            }
            int end = 1;
            whole[0] = Store.cell(Store.RECORD, size, fields);
            for (int i = base; i < depth; i++) {
                if (Store.kind(stack[at[i]]) != Store.OMIT) {
                    whole[end] = Store.plainCell(Store.FIELD, arg[names + i - base]);
                    System.arraycopy(stack, at[i], whole, end + 1, at[i + 1] - at[i]);
                    end += 1 + at[i + 1] - at[i];
                }
            }
            Store.sortFields(whole, 0, spare);
            System.arraycopy(whole, 0, stack, at[base], size);
            at[base + 1] = at[base] + size;
            depth = base + 1;
        }

        /** The top VALUE is that of a = ( ): a literal, if settling; else it is held against what stands below it. */
        private void keepSame(int node) {
            int from = at[depth - 1];
            int size = at[depth] - from;
            if (!settling) {
                if (depth > 1) templates.markSame(node, stack, from, at[depth - 2]);
            } else if (pooled + size <= POOL) {
                System.arraycopy(stack, from, pool, pooled, size);
                templates.setLiteral(node, pooled);
                pooled += size;
            }
            depth--;
        }

        /** met: the top VALUE is held against a templ, whose = ( ) have been already. */
        private void hold(int root) {
            if (depth < 1) {
                error = 1;
                return;
            }
            boolean met = templates.meets(root, stack, at[depth - 1]);
            replaceTop(truth(met));
        }

        // ---- assignment to a part

        /**
         * The top VALUE is put into a part of a slot's VALUE, the whole comes on top: 0 or the ERROR. The steps to the part
         * are the STEP operations from `from` to `to`, their numbers the VALUES from below.
         */
        int assignPart(int from, int to, int slot) {
            error = 0;
            trailed = 0;
            whole[0] = Store.OMITTED;
            if (store.sizes[slot] > 0) System.arraycopy(store.cells, slot * Store.HEAVIEST, whole, 0, store.sizes[slot]);
            int pos = 0;
            int used = 0;
            for (int i = from; i < to && error == 0; i++) {
                if (op[i] == STEP_FIELD || op[i] == STEP_INDEX) {
                    long n = op[i] == STEP_FIELD ? arg[i] : Store.told(cellOf(used));
                    if (op[i] == STEP_INDEX) used++;
                    if (i == to - 1) putPart(op[i], n, pos);
                    else pos = stepInto(op[i], n, pos);
                }
            }
            return error;
        }

        /** Where the part stands; - 1: it is OMIT. */
        private int stepInto(int o, long n, int pos) {
            long cell = pos < 0 ? Store.OMITTED : whole[pos];
            int kind = Store.kind(cell);
            if (pos >= 0 && trailed < trail.length) {
                trail[trailed] = pos;
                trailed++;
            }
            if (o == STEP_FIELD && kind == Store.RECORD) return Store.fieldAt(whole, pos, (int) n);
            if (o == STEP_FIELD && kind == Store.CHOICE) return Store.wordOf(cell) == n ? pos + 1 : -1;
            if (o == STEP_FIELD || kind != Store.LIST) error = 1;
            else if (n < 0 || n >= Store.partsOf(cell)) error = 2;
            return error != 0 ? -1 : Store.elementAt(whole, pos, (int) n);
        }

        private void putPart(int o, long n, int pos) {
            long cell = pos < 0 ? Store.OMITTED : whole[pos];
            int kind = Store.kind(cell);
            boolean omit = Store.kind(top()) == Store.OMIT;
            if (o == STEP_FIELD && kind == Store.RECORD) {
                putField((int) n, pos, omit);
            } else if (o == STEP_FIELD && kind == Store.CHOICE && !omit) {
                splice(pos, pos + 1, pos + Store.size(cell), 0, -1);
                if (error == 0) whole[pos] = Store.cell(Store.CHOICE, Store.size(whole[pos]), (int) n);
            } else if (o == STEP_INDEX && kind == Store.LIST && !omit) {
                putElement(n, pos);
            } else {
                error = 1;
            }
            if (error != 0) return;
            depth--;
            pushFrom(whole, 0);
        }

        private void putField(int word, int pos, boolean omit) {
            int there = Store.fieldAt(whole, pos, word);
            if (there >= 0) {
                int behind = there + Store.size(whole[there]);
                if (omit) splice(pos, there - 1, behind, -1, -2);
                else splice(pos, there, behind, 0, -1);
                return;
            }
            if (omit) return;
            int n = Store.partsOf(whole[pos]);
            int spot = pos + 1;
            for (int k = 0; k < n && Store.wordOf(whole[spot]) < word; k++) {
                spot += 1 + Store.size(whole[spot + 1]);
            }
            splice(pos, spot, spot, 1, word);
        }

        private void putElement(long n, int pos) {
            int count = Store.partsOf(whole[pos]);
            if (n < 0 || n > count) error = 2;
            else if (n == Store.LONGEST) error = 3;
            if (error != 0) return;
            int spot = Store.elementAt(whole, pos, (int) n);
            if (n == count) splice(pos, spot, spot, 1, -1);
            else splice(pos, spot, spot + Store.size(whole[spot]), 0, -1);
        }

        /**
         * The cells from..to of the whole become the top VALUE (word >= 0: behind a field's cell; - 2: nothing), the parts of
         * the whole at `box` so many more.
         */
        private void splice(int box, int from, int to, int more, int word) {
            int head = word >= 0 ? 1 : 0;
            int size = word == -2 ? 0 : at[depth] - at[depth - 1];
            int old = Store.size(whole[0]);
            int grown = head + size - (to - from);
            if (old + grown > Store.HEAVIEST) {
                error = 3;
                return;
            }
            System.arraycopy(whole, to, spare, 0, old - to);
            if (head == 1) whole[from] = Store.plainCell(Store.FIELD, word);
            if (size > 0) System.arraycopy(stack, at[depth - 1], whole, from + head, size);
            System.arraycopy(spare, 0, whole, from + head + size, old - to);
            whole[box] += ((long) grown << 4) + ((long) more << 12);
            for (int i = 0; i < trailed; i++) {
                whole[trail[i]] += (long) grown << 4;
            }
        }
    }

    /** The templates, and how VALUES are held against them. */
    static final class Templates {
        static final int ANY = 1, STAR = 2, RANGE = 3, LITERAL = 4, OMIT = 5, WORD = 6, LINK = 7, FIELDS = 8, TAG = 9, ROW = 10,
            NOT = 11, BOTH = 12, SOME = 13, PATTERN = 14, SUBSET = 15, SUPERSET = 16, SAME = 17, PERM = 18, FIELD = 19;
        /** Of a told template: its first node, name's place, operations, nodes (from, behind), first ERROR, DEPTH. */
        static final int ROOT = 0, PLACE = 1, START = 2, FROM = 3, BEHIND = 4, WRONG = 5, DEPTH = 6;
        static final int TEMPLATES = 60, DEEPEST = 60;
        /** Within a template that is told, no node that counts for its DEPTH: in an exp. */
        static final int ASIDE = -1_000;
        private static final int NODES = 6_100, SPOTS = Store.HEAVIEST + 2, LIMIT = 100, ROWS = 12;

        final int[] kind = new int[NODES];
        final int[] first = new int[NODES];
        final int[] next = new int[NODES];
        /** A field's, choice's, enum's word; the pool's place of a literal; the number of a told template. */
        final int[] word = new int[NODES];
        final int[] level = new int[NODES];
        /** 0, or 'length': 1, its least and greatest by bytes. */
        final int[] span = new int[NODES];
        final boolean[] ifPresent = new boolean[NODES];
        // A range's least and greatest; of = ( ) in an exp or statement to which parts of the VALUE it is alike: bits by
        // their places and 1, 0 for OMIT; of = ( ) in a told template (high) its ERROR.
        final long[] low = new long[NODES];
        final long[] high = new long[NODES];
        int nodes;
        final int[][] table = new int[TEMPLATES][7];
        int told;
        // What is known of told templates and places of the VALUE that is looked at: the turn's number and yes or no.
        private final int[] known = new int[TEMPLATES * SPOTS];
        private int turn;
        private long[] cells;
        private int base;
        final int[] whys = new int[2 * Store.HEAVIEST];
        int whyCount;
        private final int[] edges = new int[(LIMIT + 1) * ROWS];
        private final int[] owner = new int[Store.LONGEST];
        private int untried;
        private final Code code;

        Templates(Code code) {
            this.code = code;
            cells = code.pool;
        }

        void clear() {
            nodes = 0;
            told = 0;
        }

        int add(int depth) {
            if (nodes >= NODES) return NODES - 1;
            int n = nodes;
            nodes++;
            kind[n] = ANY;
            first[n] = -1;
            next[n] = -1;
            word[n] = -1;
            level[n] = depth;
            span[n] = 0;
            ifPresent[n] = false;
            low[n] = 0;
            high[n] = 0;
            return n;
        }

        /** Works out every DEPTH as far as it counts: above 60 is 61. */
        void measure() {
            for (int i = 0; i < told; i++) table[i][DEPTH] = 1;
            boolean changed = true;
            for (int round = 0; changed && round <= DEEPEST + 1; round++) {
                changed = false;
                for (int i = 0; i < told; i++) {
                    int depth = depthOf(i);
                    if (depth != table[i][DEPTH]) changed = true;
                    table[i][DEPTH] = depth;
                }
            }
        }

        private int depthOf(int i) {
            int depth = table[i][DEPTH];
            for (int n = table[i][FROM]; n < table[i][BEHIND]; n++) {
                int here = level[n];
                if (kind[n] == LINK && here > 0) here += table[word[n]][DEPTH];
                depth = Math.max(depth, Math.min(here, DEEPEST + 1));
            }
            return depth;
        }

        /** Works out all = ( ) of told templates, and which ERROR of each template is its first. */
        void settle() {
            code.settling = true;
            for (int i = 0; i < told; i++) settleOne(table[i][START]);
            code.settling = false;
            for (int i = 0; i < told; i++) table[i][WRONG] = 0;
            boolean changed = true;
            for (int round = 0; changed && round <= DEEPEST + 1; round++) {
                changed = false;
                for (int i = 0; i < told; i++) {
                    int wrong = firstWrong(table[i][START]);
                    if (wrong != table[i][WRONG]) changed = true;
                    table[i][WRONG] = wrong;
                }
            }
        }

        private void settleOne(int start) {
            int from = start;
            for (int k = 0; k < NODES; k++) {
                code.clear();
                int error = code.work(from);
                if (error == 0) return;
                int i = code.stopped;
                while (i < code.count && code.op[i] != Code.SAME && code.op[i] != Code.END) {
                    i++;
                }
                if (i >= code.count || code.op[i] == Code.END) return;
                high[code.arg[i]] = error;
                from = i + 1;
            }
        }

        private int firstWrong(int start) {
            for (int i = start; i < code.count && code.op[i] != Code.END; i++) {
                int wrong = 0;
                if (code.op[i] == Code.SAME) wrong = (int) high[code.arg[i]];
                else if (code.op[i] == Code.CHECK) wrong = wrongOf(code.arg[i]);
                if (wrong != 0) return wrong;
            }
            return 0;
        }

        /** The tone of a node is a VALUE in the pool. */
        void setLiteral(int node, int spot) {
            kind[node] = Store.kind(code.pool[spot]) == Store.OMIT ? OMIT : LITERAL;
            word[node] = spot;
        }

        /** Marks the parts of a VALUE that another one is alike to. */
        void markSame(int node, long[] a, int other, int at) {
            int size = Store.size(a[at]);
            low[node] = Store.kind(a[other]) == Store.OMIT ? 1 : 0;
            high[node] = 0;
            for (int v = 0; v < size; v++) {
                if (Store.same(a, other, a, at + v)) {
                    if (v < 63) low[node] |= 1L << (v + 1);
                    else high[node] |= 1L << (v - 63);
                }
            }
        }

        /** The first ERROR of the template that a node names, if it names one. */
        int wrongOf(int node) {
            return kind[node] == LINK ? table[word[node]][WRONG] : 0;
        }

        /** Whether a VALUE matches; its = ( ) are worked out already. */
        boolean meets(int root, long[] a, int at) {
            cells = a;
            base = at;
            turn++;
            if (turn >= 1_000_000_000) {
                Arrays.fill(known, 0);
                turn = 1;
            }
            return matches(root, Store.kind(a[at]) == Store.OMIT ? -1 : 0, 0);
        }

        /** Whether the part at v (- 1: OMIT) matches. */
        private boolean matches(int t, int v, int deep) {
            if (deep > LIMIT) return false;
            if (v < 0 && ifPresent[t]) return true;
            if (span[t] != 0 && (v < 0 || !hasLength(span[t], cells[base + v]))) return false;
            switch (kind[t]) {
                case ANY: return v >= 0;
                case STAR: return true;
                case OMIT: return v < 0;
                case RANGE: return v >= 0 && isBetween(cells[base + v], low[t], high[t]);
                case LITERAL: return v >= 0 && Store.same(cells, base + v, code.pool, word[t]);
                case WORD: return v >= 0 && cells[base + v] == Store.plainCell(Store.WORD, word[t]);
                case PATTERN: return v >= 0 && Store.kind(cells[base + v]) == Store.TEXT && fitsPattern(word[t], base + v);
                case SAME: return ((v < 63 ? low[t] >> (v + 1) : high[t] >> (v - 63)) & 1) != 0;
                case LINK: return matchesLink(word[t], v, deep);
                case FIELDS: return v >= 0 && Store.kind(cells[base + v]) == Store.RECORD && matchesFields(t, v, deep);
                case TAG:
                    return v >= 0 && Store.kind(cells[base + v]) == Store.CHOICE && Store.wordOf(cells[base + v]) == word[t]
                        && matches(first[t], v + 1, deep + 1);
                case ROW: return v >= 0 && Store.kind(cells[base + v]) == Store.LIST && matchesRow(t, v, deep);
                case SUBSET: case SUPERSET:
                    if (v < 0 || Store.kind(cells[base + v]) != Store.LIST) return false;
                    int parts = relate(t, v, deep);
                    return paired(deep, parts, 0xFFFF) == (kind[t] == SUBSET ? Store.partsOf(cells[base + v]) : parts);
                case NOT: return v >= 0 && !matchesSome(t, v, deep, true);
                case BOTH: return !matchesSome(t, v, deep, false);
                case SOME: return matchesSome(t, v, deep, true);
                default: return false;
            }
        }

        private static boolean hasLength(int bounds, long cell) {
            int kind = Store.kind(cell);
            long n = Store.told(cell);
            return (kind == Store.TEXT || kind == Store.LIST) && n >= (bounds >> 8 & 255) && n <= (bounds >> 16 & 255);
        }

        private static boolean isBetween(long cell, long least, long greatest) {
            return Store.kind(cell) == Store.NUMBER && Store.told(cell) >= least && Store.told(cell) <= greatest;
        }

        private boolean matchesLink(int template, int v, int deep) {
            int spot = template * SPOTS + v + 1;
            if (known[spot] >> 1 == turn) return (known[spot] & 1) != 0;
            boolean met = matches(table[template][ROOT], v, deep + 1);
            known[spot] = turn << 1 | (met ? 1 : 0);
            return met;
        }

        /** Whether some of the parts t has matches (`which`), or does not match. */
        private boolean matchesSome(int t, int v, int deep, boolean which) {
            int part = first[t];
            for (int i = 0; i < ROWS && part >= 0; i++) {
                if (matches(part, v, deep + 1) == which) return true;
                part = next[part];
            }
            return false;
        }

        private boolean matchesFields(int t, int v, int deep) {
            int there = 0;
            int field = first[t];
            for (int i = 0; i < Store.LONGEST && field >= 0; i++) {
                int at = Store.fieldAt(cells, base + v, word[field]);
                if (at >= 0) there++;
                if (!matches(first[field], at < 0 ? -1 : at - base, deep + 1)) return false;
                field = next[field];
            }
            return there == Store.partsOf(cells[base + v]);
        }

        /** Bit n of `reach`: the pieces so far can take the first n elements. */
        private boolean matchesRow(int t, int v, int deep) {
            int n = Store.partsOf(cells[base + v]);
            int reach = 1;
            int piece = first[t];
            for (int i = 0; i < ROWS && piece >= 0 && reach != 0; i++) {
                if (isRest(piece)) {
                    reach = (2 << n) - Integer.lowestOneBit(reach);
                } else if (kind[piece] == PERM) {
                    reach = behindPerm(piece, v, reach, deep);
                } else {
                    int behind = 0;
                    int at = v + 1;
                    for (int e = 0; e < n; e++) {
                        if ((reach >> e & 1) != 0 && matches(piece, at, deep + 1)) behind |= 2 << e;
                        at += Store.size(cells[base + at]);
                    }
                    reach = behind;
                }
                piece = next[piece];
            }
            return (reach >> n & 1) != 0;
        }

        /** Whether a piece takes any number of elements. */
        private boolean isRest(int piece) {
            return kind[piece] == STAR && span[piece] == 0 && !ifPresent[piece];
        }

        private int behindPerm(int t, int v, int reach, int deep) {
            int n = Store.partsOf(cells[base + v]);
            int templs = relate(t, v, deep);
            int behind = 0;
            for (int e = 0; e + templs <= n; e++) {
                boolean can = (reach >> e & 1) != 0 && paired(deep, templs, ((1 << templs) - 1) << e) == templs;
                if (can) behind |= 1 << (e + templs);
            }
            return behind;
        }

        /** Writes down, by bits, which elements of the LIST at v match each part of t: how many parts there are. */
        private int relate(int t, int v, int deep) {
            int n = Store.partsOf(cells[base + v]);
            int parts = 0;
            int part = first[t];
            for (; parts < ROWS && part >= 0; parts++) {
                int row = 0;
                int at = v + 1;
                for (int e = 0; e < n; e++) {
                    if (matches(part, at, deep + 1)) row |= 1 << e;
                    at += Store.size(cells[base + at]);
                }
                // A match within a match writes to the rows of its own depth.
                edges[deep * ROWS + parts] = row;
                part = next[part];
            }
            return parts;
        }

        /** How many of the parts can have one of these elements each for its own. */
        private int paired(int deep, int parts, int elements) {
            Arrays.fill(owner, -1);
            int found = 0;
            for (int i = 0; i < parts; i++) {
                untried = elements;
                if (findsElement(deep * ROWS, i, 0)) found++;
            }
            return found;
        }

        private boolean findsElement(int rows, int i, int deep) {
            if (deep > Store.LONGEST) return false;
            for (int e = 0; e < Store.LONGEST; e++) {
                if ((edges[rows + i] & untried & 1 << e) != 0) {
                    untried &= ~(1 << e);
                    if (owner[e] < 0 || findsElement(rows, owner[e], deep + 1)) {
                        owner[e] = i;
                        return true;
                    }
                }
            }
            return false;
        }

        private boolean fitsPattern(int pattern, int text) {
            int m = Store.extent(code.pool[pattern]);
            int n = Store.extent(cells[text]);
            int p = 0;
            int i = 0;
            int star = -1;
            int from = 0;
            for (int k = 0; i < n && k < 4_000; k++) {
                int sign = p < m ? Store.sign(code.pool, pattern, p) : 0;
                if (sign == '*') {
                    star = p;
                    from = i;
                    p++;
                } else if (sign != 0 && (sign == '?' || sign == Store.sign(cells, text, i))) {
                    p++;
                    i++;
                } else if (star >= 0) {
                    p = star + 1;
                    from++;
                    i = from;
                } else {
                    return false;
                }
            }
            while (p < m && Store.sign(code.pool, pattern, p) == '*') {
                p++;
            }
            return i >= n && p >= m;
        }

        // ---- WHY NOT

        /** Writes down the steps to what does not match, of the VALUE that was held against `root` last. */
        void explain(int root) {
            whyCount = 0;
            int t = root;
            int v = Store.kind(cells[base]) == Store.OMIT ? -1 : 0;
            for (int k = 0; k < 2 * LIMIT && t >= 0 && v >= 0; k++) {
                int sort = Store.kind(cells[base + v]);
                int part = -1;
                if (kind[t] == LINK) {
                    t = table[word[t]][ROOT];
                    continue;
                }
                if (kind[t] == FIELDS && sort == Store.RECORD) {
                    part = firstWrongField(t, v);
                    if (part < 0) {
                        explainUntold(t, v);
                    } else {
                        step(1_000 + word[part] - Lexer.RESERVED);
                        v = Math.max(-1, Store.fieldAt(cells, base + v, word[part]) - base);
                        part = first[part];
                    }
                } else if (kind[t] == TAG && sort == Store.CHOICE && Store.wordOf(cells[base + v]) == word[t]) {
                    step(1_000 + word[t] - Lexer.RESERVED);
                    v++;
                    part = first[t];
                } else if (kind[t] == ROW && sort == Store.LIST && isPlainRow(t, Store.partsOf(cells[base + v]))) {
                    int e = firstWrongElement(t, v);
                    if (e >= 0) {
                        step(e);
                        part = pieceOf(t, e);
                        v = Store.elementAt(cells, base + v, e) - base;
                    }
                }
                t = part;
            }
        }

        private void step(int what) {
            if (whyCount < whys.length) {
                whys[whyCount] = what;
                whyCount++;
            }
        }

        private int firstWrongField(int t, int v) {
            int field = first[t];
            for (int i = 0; i < Store.LONGEST && field >= 0; i++) {
                int at = Store.fieldAt(cells, base + v, word[field]);
                if (!matches(first[field], at < 0 ? -1 : at - base, 0)) return field;
                field = next[field];
            }
            return -1;
        }

        private void explainUntold(int t, int v) {
            int n = Store.partsOf(cells[base + v]);
            int pos = base + v + 1;
            for (int k = 0; k < n; k++) {
                int name = Store.wordOf(cells[pos]);
                boolean isTold = false;
                int field = first[t];
                for (int i = 0; i < Store.LONGEST && field >= 0; i++) {
                    if (word[field] == name) isTold = true;
                    field = next[field];
                }
                if (!isTold) {
                    step(1_000 + name - Lexer.RESERVED);
                    return;
                }
                pos += 1 + Store.size(cells[pos + 1]);
            }
        }

        /** Whether a [ ] has n pieces, all of them templs that take one element. */
        private boolean isPlainRow(int t, int n) {
            int pieces = 0;
            int piece = first[t];
            for (int i = 0; i < ROWS && piece >= 0; i++) {
                if (kind[piece] == PERM || isRest(piece)) return false;
                pieces++;
                piece = next[piece];
            }
            return pieces == n;
        }

        private int firstWrongElement(int t, int v) {
            int at = v + 1;
            int piece = first[t];
            for (int e = 0; e < ROWS && piece >= 0; e++) {
                if (!matches(piece, at, 0)) return e;
                at += Store.size(cells[base + at]);
                piece = next[piece];
            }
            return -1;
        }

        private int pieceOf(int t, int e) {
            int piece = first[t];
            for (int i = 0; i < e && piece >= 0; i++) {
                piece = next[piece];
            }
            return piece;
        }
    }

    /** The module's components, functions and the like, and their statements and branches. */
    static final class Plan {
        static final int FUNCTION = 0, ALTSTEP = 1, CASE = 2;
        static final int KINDS = 8, UNITS = 40, STEPS = 400, PORTS = 6, TIMERS = 4, PLACES = 8;
        // Of a statement or branch.
        static final int SORT = 0, NEXT = 1, UP = 2, FIRST = 3, OTHER = 4, CODE = 5, WHAT = 6, INTO = 7, MORE = 8, BEFORE = 9,
            FROM = 10, GUARD = 11;
        static final int VAR = 1, ASSIGN = 2, IF = 3, WHILE = 4, RETURN = 5, CALL = 6, SET = 7, LOG = 8, SEND = 9, ALT = 10,
            RECEIVE = 11, TIMEOUT = 12, DONE = 13, BEGIN = 14, HALT = 15, CREATE = 16, START = 17, CONNECT = 18, STOP = 19,
            USUAL = 20, UNUSUAL = 21, ELSE = 22, STEP = 23;

        int kinds;
        final int[] portCount = new int[KINDS];
        final int[] portWord = new int[KINDS * PORTS];
        final int[] timerCount = new int[KINDS];
        final int[] timerWord = new int[KINDS * TIMERS];
        final int[] varCount = new int[KINDS];
        final int[] varWord = new int[KINDS * PLACES];
        /** The types that vars must FIT, - 1: any VALUE will do. */
        final int[] varType = new int[KINDS * PLACES];
        final int[] varCode = new int[KINDS * PLACES];
        int units;
        final int[] unitSort = new int[UNITS];
        final int[] unitKind = new int[UNITS];
        final int[] parameters = new int[UNITS];
        final int[] places = new int[UNITS];
        final int[] unitFirst = new int[UNITS];
        final int[] placeWord = new int[UNITS * PLACES];
        final int[] placeType = new int[UNITS * PLACES];
        final int[][] steps = new int[STEPS][12];
        int stepCount;

        void clear() {
            kinds = 0;
            units = 0;
            stepCount = 0;
        }

        int addStep(int sort, int up) {
            if (stepCount >= STEPS) return STEPS - 1;
            int s = stepCount;
            stepCount++;
            Arrays.fill(steps[s], -1);
            steps[s][SORT] = sort;
            steps[s][UP] = up;
            return s;
        }

        void addKind(int kind) {
            kinds = kind + 1;
            portCount[kind] = 0;
            timerCount[kind] = 0;
            varCount[kind] = 0;
        }

        void addUnit(int unit, int sort) {
            units = unit + 1;
            unitSort[unit] = sort;
            unitKind[unit] = -1;
            parameters[unit] = 0;
            places[unit] = 0;
            unitFirst[unit] = -1;
        }

        /** Where a word stands in a part of a row, counted from the part's begin, or - 1. */
        private static int find(int[] row, int from, int count, int word) {
            for (int i = 0; i < count; i++) {
                if (row[from + i] == word) return i;
            }
            return -1;
        }

        int portOf(int kind, int word) {
            return kind < 0 ? -1 : find(portWord, kind * PORTS, portCount[kind], word);
        }

        int timerOf(int kind, int word) {
            return kind < 0 ? -1 : find(timerWord, kind * TIMERS, timerCount[kind], word);
        }

        int varOf(int kind, int word) {
            return kind < 0 ? -1 : find(varWord, kind * PLACES, varCount[kind], word);
        }

        int placeOf(int unit, int word) {
            return unit < 0 ? -1 : find(placeWord, unit * PLACES, places[unit], word);
        }

        boolean hasOwn(int kind, int word) {
            return kind >= 0 && (find(portWord, kind * PORTS, portCount[kind], word) >= 0
                || find(timerWord, kind * TIMERS, timerCount[kind], word) >= 0
                || find(varWord, kind * PLACES, varCount[kind], word) >= 0);
        }

        boolean hasPort(int word) {
            for (int kind = 0; kind < kinds; kind++) {
                if (portOf(kind, word) >= 0) return true;
            }
            return false;
        }

        /** The statement behind a statement in its function, - 1: none. */
        int after(int statement) {
            int s = statement;
            for (int i = 0; i <= STEPS && s >= 0; i++) {
                int[] step = steps[s];
                if (step[NEXT] >= 0) return step[NEXT];
                int up = step[UP];
                if (up < 0) return -1;
                if (steps[up][SORT] == WHILE) return up;
                // Behind a branch's block comes what is behind its alt, not the next branch.
                s = steps[up][SORT] == IF ? up : steps[up][UP];
            }
            return -1;
        }
    }

    /** The words that are names of what may be told further on, and what they turn out to be. */
    static final class Links {
        static final int TYPE = 0, PLACE_TYPE = 1, VAR_TYPE = 2, UNIT_KIND = 3, NEW_KIND = 4, PORT = 5, TIMER = 6, CODE_TIMER = 7,
            ANY_PORT = 8, CALL = 9, ALTSTEP = 10, START = 11, EXP = 12, TEMPL = 13, VAR = 14;
        private static final int MOST = 6_002;
        private static final int PLACE = 0, SORT = 1, WORD = 2, HOME = 3, SPOT = 4, EXTRA = 5;

        final Lexer lexer;
        final Types types;
        final Templates templates;
        final Code code;
        final Plan plan;
        private final int[][] rows = new int[6][MOST];
        private int count;
        int fault;
        int place;

        Links(Lexer lexer, Types types, Templates templates, Code code, Plan plan) {
            this.lexer = lexer;
            this.types = types;
            this.templates = templates;
            this.code = code;
            this.plan = plan;
        }

        void clear() {
            count = 0;
            fault = 0;
            place = 0;
        }

        /**
         * A word at the token that is read: what it is to be, the function or the like (or - 1) that it stands in, where what
         * it is goes to, and how many arguments stand behind it.
         */
        void add(int sort, int at, int word, int home, int spot, int extra) {
            if (count >= MOST) return;
            rows[PLACE][count] = at;
            rows[SORT][count] = sort;
            rows[WORD][count] = word;
            rows[HOME][count] = home;
            rows[SPOT][count] = spot;
            rows[EXTRA][count] = extra;
            count++;
        }

        /** A fault that counts if reading meets none: the one with the least place. */
        void late(int which, int at) {
            if (fault == 0 || at < place || at == place && which < fault) {
                fault = which;
                place = at;
            }
        }

        void settleNames() {
            for (int i = 0; i < count; i++) {
                if (rows[SORT][i] == UNIT_KIND) settleUnit(i);
            }
            for (int i = 0; i < count; i++) {
                if (!settleName(i)) late(4, rows[PLACE][i]);
            }
        }

        /** What types and templates are by what they name. */
        void settleTold() {
            for (int i = 0; i < types.told; i++) {
                if (types.isItself(i)) late(7, types.places[i]);
            }
            templates.measure();
            for (int i = 0; i < templates.told; i++) {
                if (templates.table[i][Templates.DEPTH] > Templates.DEEPEST) late(7, templates.table[i][Templates.PLACE]);
            }
        }

        /** The number of what is told by a word in a family (hundreds: types, templates, components, functions), or - 1. */
        private int toldAs(int word, int family) {
            int number = lexer.meaning[word] - 1 - 100 * family;
            return number >= 0 && number < 100 ? number : -1;
        }

        private void settleUnit(int i) {
            plan.unitKind[rows[SPOT][i]] = toldAs(rows[WORD][i], 2);
        }

        /** Whether the word is a name as it is wanted there. */
        private boolean settleName(int i) {
            int word = rows[WORD][i];
            int spot = rows[SPOT][i];
            int home = rows[HOME][i];
            switch (rows[SORT][i]) {
                case TYPE:
                    types.link[spot] = toldAs(word, 0);
                    return types.link[spot] >= 0;
                case PLACE_TYPE:
                    plan.placeType[spot] = toldAs(word, 0);
                    return plan.placeType[spot] >= 0;
                case VAR_TYPE:
                    plan.varType[spot] = toldAs(word, 0);
                    return plan.varType[spot] >= 0;
                case UNIT_KIND: return plan.unitKind[spot] >= 0;
                case NEW_KIND: return put(spot, Plan.WHAT, toldAs(word, 2));
                case ANY_PORT: return plan.hasPort(word);
                case CALL: case ALTSTEP: case START: return settleCall(i);
                case TEMPL: return settleTempl(word, spot);
                default: return settleOwn(rows[SORT][i], word, home < 0 ? -1 : plan.unitKind[home], spot, home);
            }
        }

        private boolean put(int step, int column, int number) {
            plan.steps[step][column] = number;
            return number >= 0;
        }

        /** What is of a component. */
        private boolean settleOwn(int sort, int word, int kind, int spot, int home) {
            switch (sort) {
                case PORT: return put(spot, Plan.WHAT, plan.portOf(kind, word));
                case TIMER: return put(spot, Plan.WHAT, plan.timerOf(kind, word));
                case CODE_TIMER:
                    // In a component's own vars `home` is below 0 and tells the component.
                    int timer = plan.timerOf(home < 0 ? -2 - home : kind, word);
                    code.arg[spot] = timer;
                    return timer >= 0;
                case VAR:
                    int own = plan.varOf(kind, word);
                    return put(spot, Plan.INTO, own < 0 ? -1 : Plan.PLACES + own);
                default:
                    own = plan.varOf(kind, word);
                    if (own < 0) return lexer.inEnum[word];
                    code.op[spot] = Code.OWN;
                    code.arg[spot] = own;
                    return true;
            }
        }

        private boolean settleTempl(int word, int node) {
            int template = toldAs(word, 1);
            if (template < 0) return lexer.inEnum[word];
            templates.kind[node] = Templates.LINK;
            templates.word[node] = template;
            return true;
        }

        private boolean settleCall(int i) {
            int unit = toldAs(rows[WORD][i], 3);
            int sort = rows[SORT][i];
            if (unit < 0) return false;
            if (plan.unitSort[unit] != (sort == ALTSTEP ? Plan.ALTSTEP : Plan.FUNCTION)) return false;
            if (sort != START && plan.unitKind[unit] != plan.unitKind[rows[HOME][i]]) return false;
            if (plan.parameters[unit] != rows[EXTRA][i]) late(6, rows[PLACE][i]);
            return put(rows[SPOT][i], Plan.WHAT, unit);
        }
    }

    /** Reads a module, or a single exp, from the first token to the last, up to the first fault. */
    static final class Reader {
        private static final int NODES = 3_000, DEEP = 16, ROW = 12, MANY = 16, LOOPS = Lexer.MOST + 2, WHOLE = -1;

        private final Lexer lexer;
        private final Types types;
        private final Templates templates;
        private final Code code;
        private final Plan plan;
        private final Links links;
        /** Operators that wait for what is behind them: what to emit, with what. */
        private final int[] waiting = new int[2 * (NODES + 2)];
        private int waits;
        /** The names of the { } that are open. */
        private final int[] names = new int[(DEEP + 2) * MANY];
        private int open;
        private int nodes;
        int moduleNodes;
        /** The function or the like that is read, or - 1; the component whose own is read, or - 1. */
        private int unit;
        private int kind;
        /** The component of that function, if it is told above. */
        private int above;
        /** Whether me, now, verdict, ended, active, met can't be: in the module's templates, in value(). */
        private boolean bare;
        /** Words from this number on are not of the module's text. */
        private int known;

        Reader(Links links) {
            this.links = links;
            lexer = links.lexer;
            types = links.types;
            templates = links.templates;
            code = links.code;
            plan = links.plan;
        }

        void readModule() {
            lexer.forget(Lexer.RESERVED);
            types.clear();
            templates.clear();
            plan.clear();
            code.count = 0;
            code.pooled = 0;
            known = Integer.MAX_VALUE;
            startReading();
            for (int k = 0; k < LOOPS && lexer.fault == 0 && lexer.token != Lexer.END; k++) {
                switch (lexer.token) {
                    case Lexer.TYPE: readTypeItem(); break;
                    case Lexer.TEMPLATE: readTemplateItem(); break;
                    case Lexer.COMPONENT: readComponentItem(); break;
                    case Lexer.FUNCTION: readUnitItem(Plan.FUNCTION); break;
                    case Lexer.ALTSTEP: readUnitItem(Plan.ALTSTEP); break;
                    case Lexer.CASE: readUnitItem(Plan.CASE); break;
                    default: lexer.fail(2); break;
                }
            }
            finishReading();
            moduleNodes = nodes;
        }

        /** Reads an exp and works it out: 0 or the ERROR; the VALUE is on the stack then. */
        int workValue() {
            int firstCode = code.count;
            int firstPooled = code.pooled;
            int firstNode = templates.nodes;
            known = lexer.words;
            startReading();
            bare = true;
            readExp(WHOLE);
            if (lexer.token != Lexer.END) lexer.fail(2);
            finishReading();
            code.clear();
            int error = lexer.fault == 0 ? code.work(firstCode) : 0;
            lexer.forget(known);
            code.count = firstCode;
            code.pooled = firstPooled;
            templates.nodes = firstNode;
            return error;
        }

        private void startReading() {
            nodes = 0;
            waits = 0;
            open = 0;
            unit = -1;
            kind = -1;
            above = -1;
            bare = false;
            links.clear();
            lexer.scan();
        }

        /** What reading did not fault is looked at as a whole. */
        private void finishReading() {
            lexer.length = 0;
            if (lexer.fault != 0) return;
            links.settleNames();
            if (!bare) links.settleTold();
            lexer.fault = links.fault;
            lexer.faultPlace = links.place;
        }

        // ---- items

        private void node() {
            if (nodes >= NODES) lexer.fail(5);
            else nodes++;
        }

        private int home() {
            return unit >= 0 ? unit : kind >= 0 ? -2 - kind : -1;
        }

        /** Takes a name of the module: whether it may be told. */
        private boolean takeName(int family, int many, int most) {
            if (lexer.token != Lexer.WORD) lexer.fail(2);
            else if (lexer.meaning[lexer.word()] != 0) lexer.fail(3);
            else if (many >= most) lexer.fail(5);
            if (lexer.fault != 0) return false;
            lexer.meaning[lexer.word()] = 1 + 100 * family + many;
            return true;
        }

        private void readTypeItem() {
            lexer.advance();
            int type = types.told;
            if (!takeName(0, type, Types.TYPES)) return;
            types.places[type] = lexer.place;
            types.told++;
            lexer.advance();
            lexer.need('=');
            types.roots[type] = readType(0);
            lexer.need(';');
        }

        private void readTemplateItem() {
            lexer.advance();
            int template = templates.told;
            if (!takeName(1, template, Templates.TEMPLATES)) return;
            int[] row = templates.table[template];
            row[Templates.PLACE] = lexer.place;
            templates.told++;
            lexer.advance();
            lexer.need('=');
            bare = true;
            row[Templates.START] = code.count;
            row[Templates.FROM] = templates.nodes;
            row[Templates.ROOT] = readTempl(0, 1);
            row[Templates.BEHIND] = templates.nodes;
            code.emit(Code.END, 0);
            bare = false;
            lexer.need(';');
        }

        private void readComponentItem() {
            lexer.advance();
            if (!takeName(2, plan.kinds, Plan.KINDS)) return;
            kind = plan.kinds;
            plan.addKind(kind);
            lexer.advance();
            lexer.need('{');
            for (int k = 0; k < LOOPS && lexer.fault == 0 && lexer.token != '}'; k++) readOwn();
            lexer.need('}');
            kind = -1;
        }

        private void readOwn() {
            int sort = lexer.token;
            if (sort != Lexer.PORT && sort != Lexer.TIMER && sort != Lexer.VAR) lexer.fail(2);
            lexer.advance();
            int[] counts = sort == Lexer.PORT ? plan.portCount : sort == Lexer.TIMER ? plan.timerCount : plan.varCount;
            int most = sort == Lexer.PORT ? Plan.PORTS : sort == Lexer.TIMER ? Plan.TIMERS : Plan.PLACES;
            int[] words = sort == Lexer.PORT ? plan.portWord : sort == Lexer.TIMER ? plan.timerWord : plan.varWord;
            if (lexer.token != Lexer.WORD) lexer.fail(2);
            else if (plan.hasOwn(kind, lexer.word())) lexer.fail(3);
            else if (counts[kind] >= most) lexer.fail(5);
            if (lexer.fault != 0) return;
            int spot = kind * most + counts[kind];
            words[spot] = lexer.word();
            lexer.advance();
            if (sort == Lexer.VAR) {
                plan.varType[spot] = -1;
                readVarType(Links.VAR_TYPE, spot);
                lexer.need(Lexer.ASSIGN);
                plan.varCode[spot] = readExp(WHOLE);
            }
            lexer.need(';');
            // A var is told behind its exp.
            counts[kind]++;
        }

        private void readVarType(int sort, int spot) {
            if (!lexer.take(':')) return;
            link(sort, spot, 0);
        }

        /** The token is to be a WORD, and a name of a sort. */
        private void link(int sort, int spot, int extra) {
            if (lexer.token != Lexer.WORD) {
                lexer.fail(2);
                return;
            }
            links.add(sort, lexer.place, lexer.word(), home(), spot, extra);
            lexer.advance();
        }

        private void readUnitItem(int sort) {
            lexer.advance();
            if (!takeName(3, plan.units, Plan.UNITS)) return;
            unit = plan.units;
            plan.addUnit(unit, sort);
            lexer.advance();
            lexer.need(Lexer.ON);
            int told = lexer.token == Lexer.WORD ? lexer.meaning[lexer.word()] - 1 : -1;
            above = told >= 200 && told < 300 ? told - 200 : -1;
            link(Links.UNIT_KIND, unit, 0);
            lexer.need('(');
            if (sort != Plan.CASE && lexer.token != ')') readParameters();
            lexer.need(')');
            plan.unitFirst[unit] = sort == Plan.ALTSTEP ? readAlts(0, -1) : readBlock(0, -1);
            unit = -1;
            above = -1;
        }

        private void readParameters() {
            for (int k = 0; k < LOOPS; k++) {
                if (takePlace() < 0) return;
                plan.parameters[unit]++;
                plan.places[unit]++;
                if (!lexer.take(',')) return;
            }
        }

        /** The place of a parameter or var whose name is the token, or - 1; it is not told yet. */
        private int takePlace() {
            if (lexer.token != Lexer.WORD) lexer.fail(2);
            else if (plan.placeOf(unit, lexer.word()) >= 0 || plan.hasOwn(above, lexer.word())) lexer.fail(3);
            else if (plan.places[unit] >= Plan.PLACES) lexer.fail(5);
            if (lexer.fault != 0) return -1;
            int spot = unit * Plan.PLACES + plan.places[unit];
            plan.placeWord[spot] = lexer.word();
            plan.placeType[spot] = -1;
            lexer.advance();
            return plan.places[unit];
        }

        // ---- types

        private static boolean beginsType(int token) {
            return token >= Lexer.INT && token <= Lexer.LIST || token == Lexer.WORD;
        }

        private int readType(int deep) {
            if (!beginsType(lexer.token)) lexer.fail(2);
            if (deep > DEEP) lexer.fail(5);
            node();
            if (lexer.fault != 0) return 0;
            int token = lexer.token;
            int t = types.add(token == Lexer.WORD ? Types.NAME : Types.INT + token - Lexer.INT);
            if (token == Lexer.WORD) {
                link(Links.TYPE, t, 0);
                return t;
            }
            lexer.advance();
            switch (token) {
                case Lexer.INT: readInt(t); break;
                case Lexer.TEXTS:
                    types.high[t] = 40;
                    if (lexer.token == '(') setSpan(t, readSpan(40));
                    break;
                case Lexer.ENUM: readEnum(t); break;
                case Lexer.RECORD: readFields(t, deep, true); break;
                case Lexer.CHOICE: readFields(t, deep, false); break;
                case Lexer.LIST:
                    types.high[t] = Store.LONGEST;
                    if (lexer.token == '(') setSpan(t, readSpan(Store.LONGEST));
                    lexer.need(Lexer.OF);
                    types.first[t] = readType(deep + 1);
                    break;
                default: break;
            }
            return t;
        }

        private void setSpan(int t, int span) {
            types.low[t] = span >> 8 & 255;
            types.high[t] = span >> 16 & 255;
        }

        /** A span as it stands with 'length': 1, its least and greatest by bytes. */
        private int readSpan(int most) {
            lexer.need('(');
            int least = readBound(0, most);
            int greatest = lexer.take(Lexer.DOTS) ? readBound(least, most) : least;
            lexer.need(')');
            return 1 | least << 8 | greatest << 16;
        }

        private int readBound(int least, int most) {
            long n = lexer.telling;
            if (lexer.token != Lexer.NUMBER) lexer.fail(2);
            else if (n < least || n > most) lexer.fail(5);
            if (lexer.fault != 0) return 0;
            lexer.advance();
            return (int) n;
        }

        private long readNumber(long least) {
            boolean minus = lexer.token == '-';
            if (minus) lexer.advance();
            long n = minus ? -lexer.telling : lexer.telling;
            if (lexer.token != Lexer.NUMBER) lexer.fail(2);
            else if (n < least) lexer.fail(5);
            if (lexer.fault != 0) return 0;
            lexer.advance();
            return n;
        }

        private void readInt(int t) {
            types.low[t] = -Store.FAR;
            types.high[t] = Store.FAR;
            if (!lexer.take('(')) return;
            int last = -1;
            for (int k = 0; k <= 6; k++) {
                if (lexer.token != '-' && lexer.token != Lexer.NUMBER) lexer.fail(2);
                if (k == 6) lexer.fail(5);
                node();
                if (lexer.fault != 0) return;
                int r = types.add(Types.RANGE);
                types.low[r] = readNumber(-Store.FAR);
                types.high[r] = lexer.take(Lexer.DOTS) ? readNumber(types.low[r]) : types.low[r];
                if (k == 0) types.first[t] = r;
                else types.next[last] = r;
                types.low[t] = k == 0 ? types.low[r] : Math.min(types.low[t], types.low[r]);
                types.high[t] = k == 0 ? types.high[r] : Math.max(types.high[t], types.high[r]);
                types.link[t]++;
                last = r;
                if (!lexer.take(',')) break;
            }
            lexer.need(')');
        }

        private void readEnum(int t) {
            lexer.need('{');
            types.first[t] = types.memberCount;
            for (int k = 0; k <= MANY; k++) {
                if (lexer.token != Lexer.WORD) lexer.fail(2);
                else if (types.memberOf(t, lexer.word()) >= 0) lexer.fail(3);
                else if (k == MANY) lexer.fail(5);
                if (lexer.fault != 0) return;
                lexer.inEnum[lexer.word()] = true;
                types.members[types.memberCount] = lexer.word();
                types.memberCount++;
                types.link[t]++;
                lexer.advance();
                if (!lexer.take(',')) break;
            }
            lexer.need('}');
        }

        private void readFields(int t, int deep, boolean isRecord) {
            lexer.need('{');
            if (isRecord && lexer.take('}')) return;
            int last = -1;
            for (int k = 0; k <= MANY; k++) {
                if (lexer.token != Lexer.WORD) lexer.fail(2);
                else if (types.fieldOf(t, lexer.word()) >= 0) lexer.fail(3);
                else if (k == MANY) lexer.fail(5);
                node();
                if (lexer.fault != 0) return;
                int f = types.add(Types.FIELD);
                types.word[f] = lexer.word();
                lexer.advance();
                lexer.need(':');
                types.first[f] = readType(deep + 1);
                if (isRecord && lexer.take(Lexer.OPTIONAL)) types.link[f] = 1;
                if (k == 0) types.first[t] = f;
                else types.next[last] = f;
                types.link[t]++;
                last = f;
                if (!lexer.take(',')) break;
            }
            lexer.need('}');
        }

        // ---- templates

        private static boolean beginsTempl(int token) {
            switch (token) {
                case '?': case '*': case '-': case '{': case '@': case '[': case '(': case '=': case Lexer.NUMBER: case Lexer.TRUE:
                case Lexer.FALSE: case Lexer.TEXT: case Lexer.OMIT: case Lexer.WORD: case Lexer.NOT: case Lexer.BOTH:
                case Lexer.PATTERN: case Lexer.SUBSET: case Lexer.SUPERSET:
                    return true;
                default:
                    return false;
            }
        }

        private int readTempl(int deep, int level) {
            if (!beginsTempl(lexer.token)) lexer.fail(2);
            if (deep > DEEP) lexer.fail(5);
            node();
            if (lexer.fault != 0) return 0;
            int t = templates.add(level);
            readTone(t, deep, level);
            if (lexer.take(Lexer.LENGTH)) templates.span[t] = readSpan(40);
            if (lexer.take(Lexer.IFPRESENT)) templates.ifPresent[t] = true;
            return t;
        }

        private void readTone(int t, int deep, int level) {
            int token = lexer.token;
            switch (token) {
                case '-': case Lexer.NUMBER:
                    templates.kind[t] = Templates.RANGE;
                    templates.low[t] = readNumber(-Store.FAR);
                    templates.high[t] = lexer.take(Lexer.DOTS) ? readNumber(templates.low[t]) : templates.low[t];
                    return;
                case Lexer.WORD:
                    templates.kind[t] = Templates.WORD;
                    templates.word[t] = lexer.word();
                    code.emit(Code.CHECK, t);
                    link(Links.TEMPL, t, 0);
                    return;
                case Lexer.TEXT: templates.setLiteral(t, poolText()); break;
                case Lexer.TRUE: templates.setLiteral(t, code.poolCell(Code.truth(true))); break;
                case Lexer.FALSE: templates.setLiteral(t, code.poolCell(Code.truth(false))); break;
                case Lexer.OMIT: templates.kind[t] = Templates.OMIT; break;
                case '?': templates.kind[t] = Templates.ANY; break;
                case '*': templates.kind[t] = Templates.STAR; break;
                default: break;
            }
            lexer.advance();
            switch (token) {
                case '{': readTemplFields(t, deep, level); break;
                case '@': readTag(t, deep, level); break;
                case '[': readPieces(t, deep, level); break;
                case '(': readInner(t, Templates.SOME, deep, level); break;
                case '=': readSame(t, deep); break;
                case Lexer.NOT: readRow(t, Templates.NOT, deep, level); break;
                case Lexer.BOTH: readRow(t, Templates.BOTH, deep, level); break;
                case Lexer.SUBSET: readRow(t, Templates.SUBSET, deep, level); break;
                case Lexer.SUPERSET: readRow(t, Templates.SUPERSET, deep, level); break;
                case Lexer.PATTERN:
                    if (lexer.token == Lexer.TEXT) templates.setLiteral(t, poolText());
                    templates.kind[t] = Templates.PATTERN;
                    lexer.need(Lexer.TEXT);
                    break;
                default: break;
            }
        }

        /** The TEXT that is the token, in the pool. */
        private int poolText() {
            int spot = code.poolText((int) lexer.telling);
            for (int i = 0; i < lexer.telling; i++) {
                Store.putSign(code.pool, spot, i, lexer.signOfText(i));
            }
            return spot;
        }

        private void readSame(int t, int deep) {
            templates.kind[t] = Templates.SAME;
            lexer.need('(');
            readExp(deep + 1);
            lexer.need(')');
            code.emit(Code.SAME, t);
        }

        private void readTag(int t, int deep, int level) {
            templates.kind[t] = Templates.TAG;
            if (lexer.token == Lexer.WORD) templates.word[t] = lexer.word();
            lexer.need(Lexer.WORD);
            templates.first[t] = readTempl(deep + 1, level + 1);
        }

        private void readTemplFields(int t, int deep, int level) {
            templates.kind[t] = Templates.FIELDS;
            if (lexer.take('}')) return;
            int last = -1;
            for (int k = 0; k <= MANY; k++) {
                if (lexer.token != Lexer.WORD) lexer.fail(2);
                else if (hasField(t, lexer.word())) lexer.fail(3);
                else if (k == MANY) lexer.fail(5);
                node();
                if (lexer.fault != 0) return;
                int f = templates.add(Templates.ASIDE);
                templates.kind[f] = Templates.FIELD;
                templates.word[f] = lexer.word();
                if (k == 0) templates.first[t] = f;
                else templates.next[last] = f;
                last = f;
                lexer.advance();
                lexer.need(Lexer.ASSIGN);
                templates.first[f] = readTempl(deep + 1, level + 1);
                if (!lexer.take(',')) break;
            }
            lexer.need('}');
        }

        private boolean hasField(int t, int word) {
            int f = templates.first[t];
            for (int i = 0; i < MANY && f >= 0; i++) {
                if (templates.word[f] == word) return true;
                f = templates.next[f];
            }
            return false;
        }

        private void readRow(int t, int sort, int deep, int level) {
            lexer.need('(');
            readInner(t, sort, deep, level);
        }

        /** templ's and the ) behind them. */
        private void readInner(int t, int sort, int deep, int level) {
            templates.kind[t] = sort;
            int last = -1;
            for (int k = 0; k <= ROW; k++) {
                if (k == ROW && beginsTempl(lexer.token)) lexer.fail(5);
                int part = readTempl(deep + 1, level + 1);
                if (lexer.fault != 0) return;
                if (k == 0) templates.first[t] = part;
                else templates.next[last] = part;
                last = part;
                if (!lexer.take(',')) break;
            }
            lexer.need(')');
        }

        private void readPieces(int t, int deep, int level) {
            templates.kind[t] = Templates.ROW;
            if (lexer.take(']')) return;
            int last = -1;
            for (int k = 0; k <= ROW; k++) {
                boolean perm = lexer.token == Lexer.PERM;
                if (k == ROW && (perm || beginsTempl(lexer.token))) lexer.fail(5);
                int part = perm ? readPerm(deep, level + 1) : readTempl(deep + 1, level + 1);
                if (lexer.fault != 0) return;
                if (k == 0) templates.first[t] = part;
                else templates.next[last] = part;
                last = part;
                if (!lexer.take(',')) break;
            }
            lexer.need(']');
        }

        private int readPerm(int deep, int level) {
            node();
            if (lexer.fault != 0) return 0;
            int t = templates.add(level);
            lexer.advance();
            readRow(t, Templates.PERM, deep, level);
            return t;
        }

        // ---- exps

        private static boolean beginsBase(int token) {
            switch (token) {
                case '{': case '[': case '(': case Lexer.NUMBER: case Lexer.TRUE: case Lexer.FALSE: case Lexer.TEXT: case Lexer.OMIT:
                case Lexer.ME: case Lexer.NOW: case Lexer.VERDICT: case Lexer.WORD: case Lexer.MET: case Lexer.ENDED:
                case Lexer.ACTIVE:
                    return true;
                default:
                    return false;
            }
        }

        private static boolean beginsExp(int token) {
            return token == '-' || token == '!' || token == '@' || token == Lexer.SIZE || beginsBase(token);
        }

        /** Its first operation; a WHOLE one stands alone and has an END. */
        private int readExp(int deep) {
            int start = code.count;
            if (!beginsExp(lexer.token)) lexer.fail(2);
            if (deep > DEEP) lexer.fail(5);
            int bottom = waits;
            readOne(Math.max(0, deep));
            for (int k = 0; k < NODES; k++) {
                int binding = bindingOf(lexer.token);
                if (binding == 0) break;
                lower(bottom, binding);
                if (binding == 3 && waits > bottom && bindingOfTop() == 3) lexer.fail(2);
                node();
                if (lexer.fault != 0) break;
                pushOperator(lexer.token);
                lexer.advance();
                readOne(Math.max(0, deep));
            }
            lower(bottom, 0);
            if (deep == WHOLE) code.emit(Code.END, 0);
            return start;
        }

        private static int bindingOf(int token) {
            switch (token) {
                case Lexer.OR: return 1;
                case Lexer.AND: return 2;
                case Lexer.EQUAL: case Lexer.UNEQUAL: case '<': case Lexer.ATMOST: case '>': case Lexer.ATLEAST: return 3;
                case '+': case '-': case '&': return 4;
                case '*': case '/': case '%': return 5;
                default: return 0;
            }
        }

        private int bindingOfTop() {
            return bindingOf(waiting[2 * waits - 2]);
        }

        /** An operator waits; && and || jump if the left side is enough. */
        private void pushOperator(int token) {
            int jump = 0;
            if (token == Lexer.AND) jump = code.emit(Code.AND, 0);
            if (token == Lexer.OR) jump = code.emit(Code.OR, 0);
            pushWaiting(token, jump);
        }

        private void pushWaiting(int what, int with) {
            if (waits > NODES) return;
            waiting[2 * waits] = what;
            waiting[2 * waits + 1] = with;
            waits++;
        }

        /** Emits the operators above `bottom` that bind tighter, or as tight (comparisons: these don't follow each other). */
        private void lower(int bottom, int binding) {
            while (waits > bottom && (bindingOfTop() > binding || bindingOfTop() == binding && binding != 3)) {
                waits--;
                int token = waiting[2 * waits];
                if (token == Lexer.AND || token == Lexer.OR) {
                    code.emit(Code.TRUTH, 0);
                    code.arg[waiting[2 * waits + 1]] = code.count;
                } else {
                    code.emit(operationOf(token), 0);
                }
            }
        }

        private static int operationOf(int token) {
            switch (token) {
                case Lexer.EQUAL: return Code.EQUAL;
                case Lexer.UNEQUAL: return Code.UNEQUAL;
                case '<': return Code.LESS;
                case Lexer.ATMOST: return Code.ATMOST;
                case '>': return Code.MORE;
                case Lexer.ATLEAST: return Code.ATLEAST;
                case '+': return Code.ADD;
                case '-': return Code.SUB;
                case '&': return Code.JOIN;
                case '*': return Code.MUL;
                case '/': return Code.DIV;
                default: return Code.MOD;
            }
        }

        /** - ! size @ ahead, a base, and . and [ ] behind it. */
        private void readOne(int deep) {
            int bottom = waits;
            for (int k = 0; k <= NODES && lexer.fault == 0; k++) {
                int token = lexer.token;
                if (token != '-' && token != '!' && token != '@' && token != Lexer.SIZE) break;
                node();
                lexer.advance();
                if (token == '-') pushWaiting(Code.MINUS, 0);
                else if (token == '!') pushWaiting(Code.NOT, 0);
                else if (token == Lexer.SIZE) pushWaiting(Code.SIZE, 0);
                else pushWaiting(Code.TAG, takeFieldName());
            }
            if (!beginsBase(lexer.token)) lexer.fail(2);
            node();
            if (lexer.fault == 0) readBase(deep);
            for (int k = 0; k <= NODES && lexer.fault == 0; k++) {
                if (lexer.token != '.' && lexer.token != '[') break;
                node();
                if (lexer.take('.')) {
                    int word = takeFieldName();
                    code.emit(Code.FIELD, word);
                } else if (lexer.take('[')) {
                    readExp(deep + 1);
                    lexer.need(']');
                    code.emit(Code.INDEX, 0);
                }
            }
            while (waits > bottom) {
                waits--;
                code.emit(waiting[2 * waits], waiting[2 * waits + 1]);
            }
        }

        /** The name of a field or choice. */
        private int takeFieldName() {
            if (lexer.token != Lexer.WORD) lexer.fail(2);
            if (lexer.fault != 0) return 0;
            int word = lexer.word();
            if (word >= known) links.late(4, lexer.place);
            lexer.advance();
            return word;
        }

        private void readBase(int deep) {
            int token = lexer.token;
            boolean ofRuns = token == Lexer.ME || token == Lexer.NOW || token == Lexer.VERDICT || token == Lexer.ENDED
                || token == Lexer.ACTIVE || token == Lexer.MET;
            if (bare && ofRuns) links.late(4, lexer.place);
            switch (token) {
                case Lexer.NUMBER: code.emit(Code.CONST, code.poolCell(Store.plainCell(Store.NUMBER, lexer.telling))); break;
                case Lexer.TRUE: code.emit(Code.CONST, code.poolCell(Code.truth(true))); break;
                case Lexer.FALSE: code.emit(Code.CONST, code.poolCell(Code.truth(false))); break;
                case Lexer.TEXT: code.emit(Code.CONST, poolText()); break;
                case Lexer.OMIT: code.emit(Code.CONST, code.poolCell(Store.OMITTED)); break;
                case Lexer.ME: code.emit(Code.ME, 0); break;
                case Lexer.NOW: code.emit(Code.NOW, 0); break;
                case Lexer.VERDICT: code.emit(Code.VERDICT, 0); break;
                case Lexer.WORD: emitWord(); break;
                default: break;
            }
            lexer.advance();
            switch (token) {
                case '{': readExpFields(deep); break;
                case '[': readElements(deep); break;
                case '(':
                    readExp(deep + 1);
                    lexer.need(')');
                    break;
                case Lexer.MET: readMet(deep); break;
                case Lexer.ENDED:
                    lexer.need('(');
                    readExp(deep + 1);
                    lexer.need(')');
                    code.emit(Code.ENDED, 0);
                    break;
                case Lexer.ACTIVE:
                    link(Links.CODE_TIMER, code.emit(Code.ACTIVE, 0), 0);
                    break;
                default: break;
            }
        }

        private void emitWord() {
            int word = lexer.word();
            int local = unit >= 0 ? plan.placeOf(unit, word) : -1;
            int own = kind >= 0 ? plan.varOf(kind, word) : -1;
            if (local >= 0) code.emit(Code.LOCAL, local);
            else if (own >= 0) code.emit(Code.OWN, own);
            else links.add(Links.EXP, lexer.place, word, home(), code.emit(Code.WORD, word), 0);
        }

        private void readMet(int deep) {
            lexer.need('(');
            readExp(deep + 1);
            lexer.need(',');
            code.emit(Code.MET, readTempl(deep + 1, Templates.ASIDE));
            lexer.need(')');
        }

        private void readExpFields(int deep) {
            int bottom = open;
            if (lexer.token != '}') {
                for (int k = 0; k <= MANY; k++) {
                    if (lexer.token != Lexer.WORD) lexer.fail(2);
                    else if (isOpen(bottom, lexer.word())) lexer.fail(3);
                    else if (k == MANY) lexer.fail(5);
                    node();
                    if (lexer.fault != 0) return;
                    names[open] = takeFieldName();
                    open++;
                    lexer.need(Lexer.ASSIGN);
                    readExp(deep + 1);
                    if (!lexer.take(',')) break;
                }
            }
            lexer.need('}');
            code.emit(Code.RECORD, open - bottom);
            for (int i = bottom; i < open; i++) code.emit(Code.NAME, names[i]);
            open = bottom;
        }

        private boolean isOpen(int bottom, int word) {
            for (int i = bottom; i < open; i++) {
                if (names[i] == word) return true;
            }
            return false;
        }

        private void readElements(int deep) {
            int n = lexer.token == ']' ? 0 : readExps(deep + 1);
            lexer.need(']');
            code.emit(Code.LIST, n);
        }

        /** exp's: how many. */
        private int readExps(int deep) {
            int n = 0;
            for (; n <= ROW && lexer.fault == 0; n++) {
                if (n == ROW && beginsExp(lexer.token)) lexer.fail(5);
                readExp(deep);
                if (!lexer.take(',')) return n + 1;
            }
            return n;
        }

        // ---- statements

        /** The first statement of the block, or - 1. */
        private int readBlock(int deep, int up) {
            return readBraces(deep, up, false);
        }

        private int readAlts(int deep, int up) {
            return readBraces(deep, up, true);
        }

        private int readBraces(int deep, int up, boolean branches) {
            if (lexer.token != '{') lexer.fail(2);
            if (deep > DEEP) lexer.fail(5);
            lexer.advance();
            int first = -1;
            int last = -1;
            for (int k = 0; k <= Plan.STEPS && lexer.fault == 0 && lexer.token != '}'; k++) {
                int s = branches ? readBranch(deep, up) : readStatement(deep, up);
                if (first < 0) first = s;
                else if (last >= 0) plan.steps[last][Plan.NEXT] = s;
                last = s;
            }
            lexer.need('}');
            return first;
        }

        private static int sortOf(int token) {
            switch (token) {
                case Lexer.VAR: return Plan.VAR;
                case Lexer.WORD: return Plan.ASSIGN;
                case Lexer.IF: return Plan.IF;
                case Lexer.WHILE: return Plan.WHILE;
                case Lexer.RETURN: return Plan.RETURN;
                case Lexer.CALL: return Plan.CALL;
                case Lexer.SET: return Plan.SET;
                case Lexer.LOG: return Plan.LOG;
                case Lexer.SEND: return Plan.SEND;
                case Lexer.ALT: return Plan.ALT;
                case Lexer.RECEIVE: return Plan.RECEIVE;
                case Lexer.TIMEOUT: return Plan.TIMEOUT;
                case Lexer.DONE: return Plan.DONE;
                case Lexer.BEGIN: return Plan.BEGIN;
                case Lexer.HALT: return Plan.HALT;
                case Lexer.CREATE: return Plan.CREATE;
                case Lexer.START: return Plan.START;
                case Lexer.CONNECT: return Plan.CONNECT;
                case Lexer.STOPS: return Plan.STOP;
                case Lexer.USUAL: return Plan.USUAL;
                case Lexer.UNUSUAL: return Plan.UNUSUAL;
                default: return 0;
            }
        }

        private int readStatement(int deep, int up) {
            int sort = sortOf(lexer.token);
            if (sort == 0) lexer.fail(2);
            if (plan.stepCount >= Plan.STEPS) lexer.fail(5);
            if (lexer.fault != 0) return -1;
            int s = plan.addStep(sort, up);
            int[] step = plan.steps[s];
            if (sort != Plan.ASSIGN && !isEvent(sort)) lexer.advance();
            switch (sort) {
                case Plan.ASSIGN: readAssignment(s); return s;
                case Plan.IF:
                    step[Plan.CODE] = readExp(WHOLE);
                    step[Plan.FIRST] = readBlock(deep + 1, s);
                    if (lexer.take(Lexer.ELSE)) step[Plan.OTHER] = readBlock(deep + 1, s);
                    return s;
                case Plan.WHILE:
                    step[Plan.CODE] = readExp(WHOLE);
                    step[Plan.FIRST] = readBlock(deep + 1, s);
                    return s;
                case Plan.ALT: step[Plan.FIRST] = readAlts(deep + 1, s); return s;
                case Plan.RECEIVE: case Plan.TIMEOUT: case Plan.DONE: readEvent(s); break;
                case Plan.CREATE: case Plan.START: case Plan.CONNECT: case Plan.USUAL: readOfComponents(s, sort); break;
                default: readPlain(s, sort); break;
            }
            lexer.need(';');
            return s;
        }

        private static boolean isEvent(int sort) {
            return sort == Plan.RECEIVE || sort == Plan.TIMEOUT || sort == Plan.DONE;
        }

        private void readPlain(int s, int sort) {
            int[] step = plan.steps[s];
            switch (sort) {
                case Plan.VAR: readVar(s); break;
                case Plan.RETURN: case Plan.STOP:
                    if (lexer.token != ';') step[Plan.CODE] = readExp(WHOLE);
                    break;
                case Plan.CALL:
                    readCall(s, Links.CALL);
                    readInto(s);
                    break;
                case Plan.SET:
                    step[Plan.WHAT] = 1 + lexer.token - Lexer.PASS;
                    if (lexer.token < Lexer.PASS || lexer.token > Lexer.FAIL) lexer.fail(2);
                    lexer.advance();
                    break;
                case Plan.LOG: step[Plan.CODE] = readExp(WHOLE); break;
                case Plan.SEND:
                    link(Links.PORT, s, 0);
                    step[Plan.CODE] = readExp(WHOLE);
                    break;
                case Plan.BEGIN:
                    link(Links.TIMER, s, 0);
                    step[Plan.CODE] = readExp(WHOLE);
                    break;
                case Plan.HALT: link(Links.TIMER, s, 0); break;
                default: break;
            }
        }

        private void readOfComponents(int s, int sort) {
            int[] step = plan.steps[s];
            switch (sort) {
                case Plan.CREATE:
                    link(Links.NEW_KIND, s, 0);
                    if (lexer.token != Lexer.INTO) lexer.fail(2);
                    readInto(s);
                    break;
                case Plan.START:
                    step[Plan.CODE] = code.count;
                    readExp(0);
                    lexer.need(Lexer.AS);
                    readCall(s, Links.START);
                    break;
                case Plan.CONNECT:
                    step[Plan.CODE] = code.count;
                    readExp(0);
                    lexer.need(Lexer.AT);
                    step[Plan.WHAT] = takePort(s);
                    lexer.need(Lexer.WITH);
                    readExp(0);
                    lexer.need(Lexer.AT);
                    step[Plan.MORE] = takePort(s);
                    code.emit(Code.END, 0);
                    break;
                default: readCall(s, Links.ALTSTEP); break;
            }
        }

        private int takePort(int s) {
            int word = lexer.word();
            link(Links.ANY_PORT, s, 0);
            return word;
        }

        private void readVar(int s) {
            int[] step = plan.steps[s];
            int local = takePlace();
            if (local < 0) return;
            readVarType(Links.PLACE_TYPE, unit * Plan.PLACES + local);
            lexer.need(Lexer.ASSIGN);
            step[Plan.CODE] = readExp(WHOLE);
            step[Plan.INTO] = local;
            // A var is told behind its exp.
            plan.places[unit]++;
        }

        /** The token is to be a parameter or var. */
        private void takeVar(int s) {
            int local = lexer.token == Lexer.WORD ? plan.placeOf(unit, lexer.word()) : -1;
            plan.steps[s][Plan.INTO] = local;
            if (local >= 0) lexer.advance();
            else link(Links.VAR, s, 0);
        }

        private void readInto(int s) {
            if (lexer.take(Lexer.INTO)) takeVar(s);
        }

        /** BEFORE: the operation behind those of the steps to the part. */
        private void readAssignment(int s) {
            int[] step = plan.steps[s];
            takeVar(s);
            step[Plan.CODE] = code.count;
            for (int k = 0; k <= NODES && lexer.fault == 0; k++) {
                if (lexer.token != '.' && lexer.token != '[') break;
                node();
                if (lexer.take('.')) {
                    int word = takeFieldName();
                    code.emit(Code.STEP_FIELD, word);
                } else if (lexer.take('[')) {
                    readExp(0);
                    lexer.need(']');
                    code.emit(Code.STEP_INDEX, 0);
                }
            }
            lexer.need(Lexer.ASSIGN);
            step[Plan.BEFORE] = code.count;
            readExp(0);
            code.emit(Code.END, 0);
            lexer.need(';');
        }

        /** A name and its arguments; what stood ahead of them is worked out with them. */
        private void readCall(int s, int sort) {
            int word = lexer.word();
            int at = lexer.place;
            lexer.need(Lexer.WORD);
            lexer.need('(');
            if (plan.steps[s][Plan.CODE] < 0) plan.steps[s][Plan.CODE] = code.count;
            int n = lexer.token == ')' ? 0 : readExps(0);
            lexer.need(')');
            code.emit(Code.END, 0);
            links.add(sort, at, word, home(), s, n);
        }

        private void readEvent(int s) {
            int[] step = plan.steps[s];
            step[Plan.SORT] = sortOf(lexer.token);
            lexer.advance();
            if (step[Plan.SORT] == Plan.TIMEOUT) link(Links.TIMER, s, 0);
            if (step[Plan.SORT] == Plan.DONE) step[Plan.CODE] = readExp(WHOLE);
            if (step[Plan.SORT] != Plan.RECEIVE) return;
            link(Links.PORT, s, 0);
            step[Plan.BEFORE] = code.count;
            step[Plan.MORE] = readTempl(0, Templates.ASIDE);
            code.emit(Code.END, 0);
            if (lexer.take(Lexer.FROM)) step[Plan.FROM] = readExp(WHOLE);
            readInto(s);
        }

        private int readBranch(int deep, int up) {
            if (lexer.token != '[') lexer.fail(2);
            if (plan.stepCount >= Plan.STEPS) lexer.fail(5);
            if (lexer.fault != 0) return -1;
            int s = plan.addStep(Plan.ELSE, up);
            int[] step = plan.steps[s];
            lexer.advance();
            if (lexer.take(Lexer.ELSE)) {
                lexer.need(']');
                step[Plan.FIRST] = readBlock(deep + 1, s);
                return s;
            }
            if (lexer.token != ']') step[Plan.GUARD] = readExp(WHOLE);
            lexer.need(']');
            if (lexer.take(Lexer.STEP)) {
                step[Plan.SORT] = Plan.STEP;
                readCall(s, Links.ALTSTEP);
                lexer.need(';');
                return s;
            }
            if (!isEvent(sortOf(lexer.token))) lexer.fail(2);
            readEvent(s);
            step[Plan.FIRST] = readBlock(deep + 1, s);
            return s;
        }
    }

    /** VALUES as text and as bits. */
    static final class Codes {
        static final int BITS = 8_000;
        private static final int HAND = 4_000;

        private final Lexer lexer;
        private final Types types;
        final byte[] hand = new byte[HAND];
        int handSize;
        final byte[] row = new byte[BITS];
        int bitCount;
        /** The VALUE that was read last. */
        final long[] out = new long[2 * Store.HEAVIEST];
        private int outSize;
        private int weight;
        private int readAt;
        /** Where reading went wrong, or - 1. */
        private int wrong;
        private final long[] spare = new long[2 * Store.HEAVIEST];
        // The parts that are open: the first cell or type, what is left, what closes.
        private final int[] openAt = new int[2 * Store.HEAVIEST];
        private final int[] openType = new int[2 * Store.HEAVIEST];
        private final int[] openLeft = new int[2 * Store.HEAVIEST];
        private int open;

        Codes(Lexer lexer, Types types) {
            this.lexer = lexer;
            this.types = types;
        }

        // ---- as text

        int writeText(long[] a, int at) {
            handSize = 0;
            open = 0;
            int size = Store.size(a[at]);
            for (int i = 0; i < size; i++) {
                long cell = a[at + i];
                switch (Store.kind(cell)) {
                    case Store.NUMBER: writeNumber(Store.told(cell)); break;
                    case Store.TRUTH: writeWords(Store.told(cell) != 0 ? "true" : "false"); break;
                    case Store.TEXT:
                        writeSigns(a, at + i);
                        i += Store.size(cell) - 1;
                        break;
                    case Store.WORD: writeName(Store.wordOf(cell)); break;
                    case Store.OMIT: writeWords("omit"); break;
                    case Store.COMPONENT:
                        writeSign('#');
                        writeNumber(Store.told(cell));
                        break;
                    case Store.FIELD:
                        writeName(Store.wordOf(cell));
                        writeWords(":=");
                        continue;
                    case Store.CHOICE:
                        writeSign('@');
                        writeName(Store.wordOf(cell));
                        writeSign(' ');
                        break;
                    default: writeSign(Store.kind(cell) == Store.RECORD ? '{' : '['); break;
                }
                closeWritten(cell);
            }
            return handSize;
        }

        /** Behind a part: it opens parts of its own, or ends, and with it what it is the last part of. */
        private void closeWritten(long cell) {
            int kind = Store.kind(cell);
            int parts = kind == Store.CHOICE ? 1 : kind == Store.RECORD || kind == Store.LIST ? Store.partsOf(cell) : 0;
            if (open >= openLeft.length) return;
            openLeft[open] = parts;
            openAt[open] = kind == Store.RECORD ? '}' : kind == Store.LIST ? ']' : 0;
            open++;
            while (open > 0 && openLeft[open - 1] == 0) {
                open--;
                if (openAt[open] != 0) writeSign(openAt[open]);
                if (open > 0) {
                    openLeft[open - 1]--;
                    if (openLeft[open - 1] > 0) writeSign(',');
                }
            }
        }

        private void writeSign(int sign) {
            if (handSize >= HAND) return;
            hand[handSize] = (byte) sign;
            handSize++;
        }

        private void writeWords(String words) {
            for (int i = 0; i < words.length(); i++) writeSign(words.charAt(i));
        }

        private void writeName(int word) {
            handSize = lexer.writeWord(word, hand, handSize);
        }

        private void writeSigns(long[] a, int at) {
            int n = Store.extent(a[at]);
            writeSign('"');
            for (int i = 0; i < n; i++) writeSign(Store.sign(a, at, i));
            writeSign('"');
        }

        private void writeNumber(long n) {
            if (n < 0) writeSign('-');
            long rest = Math.abs(n);
            long power = 1;
            for (int i = 0; i < 17 && rest / power >= 10; i++) power *= 10;
            for (int i = 0; i < 18 && power > 0; i++) {
                writeSign('0' + (int) (rest / power % 10));
                power /= 10;
            }
        }

        // ---- as bits

        static int bitsFor(long greatest) {
            return 64 - Long.numberOfLeadingZeros(greatest);
        }

        void put(long n, int howMany) {
            for (int i = howMany - 1; i >= 0 && bitCount < BITS; i--) {
                row[bitCount] = (byte) (n >> i & 1);
                bitCount++;
            }
        }

        /** The row becomes the code of a VALUE that FITS the type: how many bits. */
        int writeBits(long[] a, int at, int type) {
            bitCount = 0;
            open = 0;
            expect(at, type);
            for (int k = 0; open > 0 && k < openAt.length; k++) {
                open--;
                writePart(a, openAt[open], types.resolve(openType[open]));
            }
            return bitCount;
        }

        private void expect(int at, int type) {
            if (open >= openAt.length) return;
            openAt[open] = at;
            openType[open] = type;
            open++;
        }

        private void writePart(long[] a, int at, int t) {
            long cell = a[at];
            switch (types.kind[t]) {
                case Types.INT: writeInt(t, Store.told(cell)); break;
                case Types.BOOL: put(Store.told(cell), 1); break;
                case Types.ENUM: put(types.memberOf(t, Store.wordOf(cell)), bitsFor(types.link[t] - 1)); break;
                case Types.TEXT:
                    writeLength(t, Store.extent(cell));
                    for (int i = 0; i < Store.extent(cell); i++) put(Store.sign(a, at, i) - 32, 7);
                    break;
                case Types.LIST: writeList(a, at, t); break;
                case Types.CHOICE:
                    int field = types.fieldOf(t, Store.wordOf(cell));
                    put(placeOf(t, field), bitsFor(types.link[t] - 1));
                    expect(at + 1, types.first[field]);
                    break;
                default: writeRecord(a, at, t); break;
            }
        }

        private void writeInt(int t, long n) {
            if (types.link[t] != 0) {
                put(n - types.low[t], bitsFor(types.high[t] - types.low[t]));
                return;
            }
            int bytes = bytesFor(n);
            put(bytes, 8);
            put(n, 8 * bytes);
        }

        /** The fewest bytes that have the number with its sign. */
        private static int bytesFor(long n) {
            int bytes = 1;
            while (bytes < 8 && n >> (8 * bytes - 1) != 0 && n >> (8 * bytes - 1) != -1) {
                bytes++;
            }
            return bytes;
        }

        private void writeLength(int t, int n) {
            put(n - types.low[t], bitsFor(types.high[t] - types.low[t]));
        }

        private int placeOf(int t, int field) {
            int f = types.first[t];
            for (int i = 0; i < types.link[t] && f >= 0; i++) {
                if (f == field) return i;
                f = types.next[f];
            }
            return -1;
        }

        private int fieldAt(int t, int place) {
            int f = types.first[t];
            for (int i = 0; i < place && f >= 0; i++) f = types.next[f];
            return f;
        }

        // Parts are expected from the last to the first, as the one that is expected last is written first.

        private void writeList(long[] a, int at, int t) {
            int n = Store.partsOf(a[at]);
            writeLength(t, n);
            for (int i = n - 1; i >= 0; i--) expect(Store.elementAt(a, at, i), types.first[t]);
        }

        private void writeRecord(long[] a, int at, int t) {
            int f = types.first[t];
            for (int i = 0; i < types.link[t] && f >= 0; i++) {
                if (types.link[f] != 0) put(Store.fieldAt(a, at, types.word[f]) >= 0 ? 1 : 0, 1);
                f = types.next[f];
            }
            for (int i = types.link[t] - 1; i >= 0; i--) {
                int field = fieldAt(t, i);
                int there = field < 0 ? -1 : Store.fieldAt(a, at, types.word[field]);
                if (there >= 0) expect(there, types.first[field]);
            }
        }

        // ---- reading

        /** Reads the row by a type into `out`: the place where it is wrong, or - 1. */
        int read(int type) {
            open = 0;
            outSize = 0;
            weight = 0;
            readAt = 0;
            wrong = -1;
            readPart(type, -1);
            for (int k = 0; k < 4 * Store.HEAVIEST && wrong < 0 && open > 0; k++) readNext();
            if (wrong < 0 && readAt < bitCount) wrong = readAt;
            return wrong;
        }

        /** The next part of what was opened last; or that is whole. */
        private void readNext() {
            int top = open - 1;
            int t = openType[top];
            if (types.kind[t] == Types.RECORD) {
                // Bit i of what is left: field i is there and to be read yet.
                int left = openLeft[top];
                if (left != 0) {
                    int field = fieldAt(t, Integer.numberOfTrailingZeros(left));
                    openLeft[top] = left & (left - 1);
                    readPart(types.first[field], types.word[field]);
                    return;
                }
            } else if (openLeft[top] > 0) {
                int chosen = types.kind[t] == Types.CHOICE ? fieldAt(t, openLeft[top] - 1) : t;
                openLeft[top] = types.kind[t] == Types.CHOICE ? 0 : openLeft[top] - 1;
                readPart(types.first[chosen], -1);
                return;
            }
            open--;
            int at = openAt[top];
            out[at] += (long) (outSize - at) << 4;
            if (types.kind[t] == Types.RECORD) Store.sortFields(out, at, spare);
        }

        /** A part, of this name if it is a field's. */
        private void readPart(int type, int name) {
            int t = types.resolve(type);
            weight += name >= 0 ? 2 : 1;
            if (types.least[t] >= Types.NEVER || weight > Store.HEAVIEST) {
                wrong = readAt;
                return;
            }
            if (name >= 0) putCell(Store.plainCell(Store.FIELD, name));
            switch (types.kind[t]) {
                case Types.INT: readInt(t); break;
                case Types.BOOL: putCell(Code.truth(take(1) == 1)); break;
                case Types.ENUM:
                    int place = (int) takeUpTo(types.link[t] - 1);
                    if (wrong < 0) putCell(Store.plainCell(Store.WORD, types.members[types.first[t] + place]));
                    break;
                case Types.TEXT: readText(t); break;
                case Types.LIST: openList(t); break;
                case Types.CHOICE: openChoice(t); break;
                default: openRecord(t); break;
            }
        }

        private void putCell(long cell) {
            if (outSize >= out.length) return;
            out[outSize] = cell;
            outSize++;
        }

        /** The next bits as a number; wrong where they end too early. */
        private long take(int howMany) {
            if (wrong >= 0) return 0;
            if (readAt + howMany > bitCount) {
                wrong = bitCount;
                return 0;
            }
            long n = 0;
            for (int i = 0; i < howMany; i++) {
                n = n << 1 | row[readAt];
                readAt++;
            }
            return n;
        }

        /** A number from 0 to the greatest in as many bits as that needs; wrong at its first bit. */
        private long takeUpTo(long greatest) {
            int start = readAt;
            long n = take(bitsFor(greatest));
            if (wrong < 0 && n > greatest) wrong = start;
            return wrong < 0 ? n : 0;
        }

        private void readInt(int t) {
            int start = readAt;
            long n;
            if (types.link[t] != 0) {
                n = types.low[t] + takeUpTo(types.high[t] - types.low[t]);
            } else {
                int bytes = (int) take(8);
                if (wrong < 0 && (bytes < 1 || bytes > 7)) wrong = start;
                if (wrong >= 0) return;
                n = take(8 * bytes) << (64 - 8 * bytes) >> (64 - 8 * bytes);
                if (wrong < 0 && bytesFor(n) != bytes) wrong = start;
            }
            if (wrong < 0 && !types.inRanges(t, n)) wrong = start;
            if (wrong < 0) putCell(Store.plainCell(Store.NUMBER, n));
        }

        private void readText(int t) {
            int start = readAt;
            int n = (int) (types.low[t] + takeUpTo(types.high[t] - types.low[t]));
            if (wrong >= 0) return;
            weight += (n + 7) / 8;
            if (weight > Store.HEAVIEST) {
                wrong = start;
                return;
            }
            int at = outSize;
            putCell(Store.textCell(n));
            outSize += (n + 7) / 8;
            for (int i = 0; i < n && wrong < 0; i++) {
                int first = readAt;
                int sign = 32 + (int) take(7);
                if (wrong < 0 && (sign > 126 || sign == '"')) wrong = first;
                Store.putSign(out, at, i, sign);
            }
        }

        private void openList(int t) {
            int n = (int) (types.low[t] + takeUpTo(types.high[t] - types.low[t]));
            openPart(t, n, Store.cell(Store.LIST, 0, n));
        }

        private void openRecord(int t) {
            int there = 0;
            int n = 0;
            int f = types.first[t];
            for (int i = 0; i < types.link[t] && f >= 0; i++) {
                if (types.link[f] == 0 || take(1) == 1) {
                    there |= 1 << i;
                    n++;
                }
                f = types.next[f];
            }
            openPart(t, there, Store.cell(Store.RECORD, 0, n));
        }

        private void openChoice(int t) {
            int place = (int) takeUpTo(types.link[t] - 1);
            int field = fieldAt(t, place);
            if (field >= 0) openPart(t, place + 1, Store.cell(Store.CHOICE, 0, types.word[field]));
        }

        private void openPart(int t, int left, long cell) {
            if (wrong >= 0 || open >= openAt.length) return;
            openAt[open] = outSize;
            openType[open] = t;
            openLeft[open] = left;
            open++;
            putCell(cell);
        }
    }

    /** What a COMPONENT has, but for its VALUES. */
    static final class Part {
        static final int FRESH = 0, RUNS = 1, ENDED = 2;
        static final int FRAMES = 8, USUALS = 4, QUEUE = 8;

        final int number;
        int kind;
        int status;
        int judgement;
        int steps;
        int error;
        int frames;
        /** Of each FRAME: its function or altstep, the statement that comes next (- 1: none), what gets what it returns. */
        final int[] frameUnit = new int[FRAMES];
        final int[] frameNext = new int[FRAMES];
        final int[] frameInto = new int[FRAMES];
        int usuals;
        final int[] usualUnit = new int[USUALS];
        /** The port that each port is connected with, - 1: none. */
        final int[] joined = new int[Plan.PORTS];
        private final int[] head = new int[Plan.PORTS];
        final int[] held = new int[Plan.PORTS];
        private final int[] senders = new int[Plan.PORTS * QUEUE];
        /** When each timer runs out, - 1: it does not run. */
        final long[] due = new long[Plan.TIMERS];

        Part(int number) {
            this.number = number;
        }

        void renew(int of) {
            kind = of;
            status = FRESH;
            judgement = 0;
            steps = 0;
            error = 0;
            frames = 0;
            usuals = 0;
            Arrays.fill(joined, -1);
            Arrays.fill(head, 0);
            Arrays.fill(held, 0);
            Arrays.fill(due, -1);
        }

        int varSlot(int i) {
            return Store.VARS + number * Store.VARS_EACH + i;
        }

        int frameSlot(int frame) {
            return Store.VARS + number * Store.VARS_EACH + Plan.PLACES + frame * Plan.PLACES;
        }

        int topSlot() {
            return frameSlot(Math.max(0, frames - 1));
        }

        int usualSlot(int i) {
            return Store.USUAL + (number * USUALS + i) * Plan.PLACES;
        }

        private int queuePlace(int port, int i) {
            return port * QUEUE + (head[port] + i) % QUEUE;
        }

        int queueSlot(int port, int i) {
            return Store.QUEUES + number * Plan.PORTS * QUEUE + queuePlace(port, i);
        }

        int sender(int port) {
            return senders[queuePlace(port, 0)];
        }

        /** The slot for one more VALUE. */
        int enqueue(int port, int from) {
            senders[queuePlace(port, held[port])] = from;
            held[port]++;
            return queueSlot(port, held[port] - 1);
        }

        void dequeue(int port) {
            head[port] = (head[port] + 1) % QUEUE;
            held[port]--;
        }

        boolean pushFrame(int unit, int next) {
            if (frames >= FRAMES) return false;
            frameUnit[frames] = unit;
            frameNext[frames] = next;
            frameInto[frames] = -1;
            frames++;
            return true;
        }
    }

    /** The run of a case: what components do, step by step. */
    static final class Runner {
        static final int PARTS = 8, STEPS_DEEP = 4;
        static final long LATEST = 1_000_000_000_000L;
        private static final int NO = 0, TAKEN = 1, WRONG = 2;
        private static final int SENT_OUT = 0, SENT = 1, RECEIVED = 2, TIMED_OUT = 3, JUDGED = 4, LOGGED = 5, ENDED = 6, ERROR = 7,
            MADE = 8, STARTED = 9;

        private final Store store;
        private final Types types;
        private final Code code;
        private final Templates templates;
        private final Plan plan;
        final Part[] parts = new Part[PARTS];
        int made;
        long time;
        boolean open;
        // The branch that can be taken: its number, its altstep (or - 1), the slots of that one's places.
        private int takenStep;
        private int takenUnit;
        private int takenFrame;

        Runner(Store store, Types types, Code code, Templates templates, Plan plan) {
            this.store = store;
            this.types = types;
            this.code = code;
            this.templates = templates;
            this.plan = plan;
            for (int i = 0; i < PARTS; i++) parts[i] = new Part(i);
        }

        void close() {
            open = false;
            made = 0;
            time = 0;
            store.clearLog();
        }

        /** Begins a case: whether its component's vars went well. */
        boolean open(int unit) {
            close();
            open = true;
            Part part = parts[0];
            int kind = plan.unitKind[unit];
            part.renew(kind);
            made = 1;
            store.note(MADE, 0, kind);
            int error = workVars(part);
            if (error != 0) {
                fail(part, error);
                return false;
            }
            launch(part, unit);
            return true;
        }

        private void launch(Part part, int unit) {
            part.status = Part.RUNS;
            part.pushFrame(unit, plan.unitFirst[unit]);
            store.note(STARTED, part.number, 0);
            if (plan.unitFirst[unit] < 0) finish(part);
        }

        /** A COMPONENT's vars, in order: 0 or the ERROR. */
        private int workVars(Part part) {
            store.empty(part.varSlot(0), Store.VARS_EACH);
            see(part);
            for (int i = 0; i < plan.varCount[part.kind]; i++) {
                code.clear();
                int error = code.work(plan.varCode[part.kind * Plan.PLACES + i]);
                if (error != 0) return error;
                int type = plan.varType[part.kind * Plan.PLACES + i];
                if (type >= 0 && !types.holds(code.stack, code.topAt(), types.roots[type])) return 4;
                store.put(part.varSlot(i), code.stack, code.topAt());
            }
            return 0;
        }

        /** What exps see is this COMPONENT's. */
        private void see(Part part) {
            code.clear();
            code.part = part;
            code.now = time;
            code.frame = part.topSlot();
            code.endedParts = 0;
            for (int i = 0; i < made; i++) {
                if (parts[i].status == Part.ENDED) code.endedParts |= 1 << i;
            }
        }

        int worst() {
            int worst = 0;
            for (int i = 0; i < made; i++) worst = Math.max(worst, parts[i].judgement);
            return worst;
        }

        /** Whether some COMPONENT that RUNS can do a STEP now. */
        boolean canGoOn() {
            for (int i = 0; i < made; i++) {
                Part part = parts[i];
                int s = part.status == Part.RUNS ? nextOf(part) : -1;
                if (s >= 0) {
                    if (!waits(plan.steps[s][Plan.SORT])) return true;
                    see(part);
                    if (look(part, s) != NO) return true;
                }
            }
            return false;
        }

        private static int nextOf(Part part) {
            return part.frames > 0 ? part.frameNext[part.frames - 1] : -1;
        }

        private static boolean waits(int sort) {
            return sort == Plan.ALT || sort == Plan.RECEIVE || sort == Plan.TIMEOUT || sort == Plan.DONE;
        }

        /** The slot of a COMPONENT's var, or (100 and on) of its topmost FRAME's place; - 1: none such. */
        int slotOfPlace(Part part, int place) {
            if (place >= 0 && place < plan.varCount[part.kind]) return part.varSlot(place);
            if (place < 100 || part.frames == 0) return -1;
            int unit = part.frameUnit[part.frames - 1];
            return place - 100 < plan.places[unit] ? part.topSlot() + place - 100 : -1;
        }

        /** A VALUE comes to a port: false if its QUEUE is full. */
        boolean arrive(Part part, int port, int from, long[] a, int at) {
            if (part.held[port] >= Part.QUEUE) return false;
            store.put(part.enqueue(port, from), a, at);
            return true;
        }

        // ---- steps

        /** A STEP of a COMPONENT: whether one was done. */
        boolean advance(int c) {
            Part part = parts[c];
            int s = part.status == Part.RUNS ? nextOf(part) : -1;
            if (s < 0) return false;
            see(part);
            int sort = plan.steps[s][Plan.SORT];
            int error = 0;
            if (waits(sort)) {
                int found = look(part, s);
                if (found == NO) return false;
                error = found == WRONG ? code.error : enter(part, s);
            } else {
                if (sort == Plan.CREATE && made >= PARTS) {
                    error = 7;
                } else if (sort == Plan.CREATE) {
                    parts[made].renew(plan.steps[s][Plan.WHAT]);
                    error = workVars(parts[made]);
                }
                if (error == 0) error = perform(part, s, sort);
            }
            part.steps++;
            if (error == 0) error = settle(part, sort == Plan.RETURN);
            if (error != 0) fail(part, error);
            return true;
        }

        /** Goes back from functions that have come to their end, at first with the top VALUE if it returns: 0 or the ERROR. */
        private int settle(Part part, boolean returns) {
            for (int i = 0; i <= Part.FRAMES && part.status == Part.RUNS && nextOf(part) < 0; i++) {
                if (part.frames <= 1) {
                    finish(part);
                    return 0;
                }
                if (i > 0 || !returns) code.pushCell(Store.OMITTED);
                part.frames--;
                int into = part.frameInto[part.frames];
                int error = into < 0 ? 0 : assign(part, into);
                if (error != 0) return error;
            }
            return 0;
        }

        private int typeOf(Part part, int unit, int into) {
            return into < Plan.PLACES ? plan.placeType[unit * Plan.PLACES + into]
                : plan.varType[part.kind * Plan.PLACES + into - Plan.PLACES];
        }

        /** The slot of a place of the topmost FRAME or (8 and on) of a var of the COMPONENT. */
        private static int slotOf(Part part, int into) {
            return into < Plan.PLACES ? part.topSlot() + into : part.varSlot(into - Plan.PLACES);
        }

        /** The top VALUE comes to a parameter or var. */
        private int assign(Part part, int into) {
            int type = typeOf(part, part.frameUnit[part.frames - 1], into);
            if (type >= 0 && !types.holds(code.stack, code.topAt(), types.roots[type])) return 4;
            store.put(slotOf(part, into), code.stack, code.topAt());
            return 0;
        }

        private void finish(Part part) {
            part.status = Part.ENDED;
            part.frames = 0;
            part.usuals = 0;
            Arrays.fill(part.due, -1);
            store.note(ENDED, part.number, 0);
        }

        private void fail(Part part, int error) {
            part.error = error;
            store.note(ERROR, part.number, error);
            judge(part, 4);
            finish(part);
        }

        private void judge(Part part, int judgement) {
            if (judgement <= part.judgement) return;
            part.judgement = judgement;
            store.note(JUDGED, part.number, judgement);
        }

        /** Any statement that does not wait: 0 or the ERROR. */
        private int perform(Part part, int s, int sort) {
            int[] step = plan.steps[s];
            int error = step[Plan.CODE] >= 0 ? code.work(step[Plan.CODE]) : 0;
            if (error != 0) return error;
            int top = part.frames - 1;
            part.frameNext[top] = plan.after(s);
            switch (sort) {
                case Plan.VAR: return assign(part, step[Plan.INTO]);
                case Plan.ASSIGN:
                    if (step[Plan.BEFORE] > step[Plan.CODE]) {
                        error = code.assignPart(step[Plan.CODE], step[Plan.BEFORE], slotOf(part, step[Plan.INTO]));
                    }
                    return error != 0 ? error : assign(part, step[Plan.INTO]);
                case Plan.IF: case Plan.WHILE: return choose(part, s);
                case Plan.RETURN:
                    if (step[Plan.CODE] < 0) code.pushCell(Store.OMITTED);
                    part.frameNext[top] = -1;
                    return 0;
                case Plan.CALL: return call(part, step);
                case Plan.SET: judge(part, step[Plan.WHAT]); return 0;
                case Plan.LOG: case Plan.SEND: return speak(part, step, sort);
                case Plan.BEGIN: return beginTimer(part, step[Plan.WHAT]);
                case Plan.HALT: part.due[step[Plan.WHAT]] = -1; return 0;
                case Plan.CREATE:
                    code.pushCell(Store.plainCell(Store.COMPONENT, made));
                    error = assign(part, step[Plan.INTO]);
                    if (error != 0) return error;
                    made++;
                    store.note(MADE, made - 1, step[Plan.WHAT]);
                    return 0;
                case Plan.START: return start(part, step);
                case Plan.CONNECT: return connect(step);
                case Plan.STOP: return stop(part, step);
                case Plan.USUAL: return addUsual(part, step);
                default: part.usuals = 0; return 0;
            }
        }

        private int choose(Part part, int s) {
            int[] step = plan.steps[s];
            if (Store.kind(code.top()) != Store.TRUTH) return 1;
            boolean is = Store.told(code.top()) != 0;
            int next = is ? step[Plan.FIRST] : step[Plan.OTHER];
            if (is && next < 0 && step[Plan.SORT] == Plan.WHILE) next = s;
            if (next >= 0) part.frameNext[part.frames - 1] = next;
            return 0;
        }

        /** The VALUES on the stack from `from` on are the arguments in the slots from `slot` on; the other places are empty. */
        private void putArguments(int slot, int from) {
            store.empty(slot, Plan.PLACES);
            for (int i = 0; from + i < code.depth && i < Plan.PLACES; i++) {
                store.put(slot + i, code.stack, code.at[from + i]);
            }
        }

        private int call(Part part, int[] step) {
            int unit = step[Plan.WHAT];
            if (!part.pushFrame(unit, plan.unitFirst[unit])) return 7;
            part.frameInto[part.frames - 1] = step[Plan.INTO];
            putArguments(part.topSlot(), 0);
            return 0;
        }

        private int speak(Part part, int[] step, int sort) {
            if (Store.kind(code.top()) == Store.OMIT) return 1;
            int port = step[Plan.WHAT];
            int at = code.topAt();
            if (sort == Plan.LOG) {
                store.noteValue(LOGGED, part.number, 0, code.stack, at);
            } else if (part.joined[port] < 0) {
                store.noteValue(SENT_OUT, part.number, 0, code.stack, at);
                store.sentOut++;
            } else {
                store.noteValue(SENT, part.number, port, code.stack, at);
                int to = part.joined[port];
                arrive(parts[to / Plan.PORTS], to % Plan.PORTS, part.number, code.stack, at);
            }
            return 0;
        }

        private int beginTimer(Part part, int timer) {
            if (Store.kind(code.top()) != Store.NUMBER) return 1;
            long ticks = Store.told(code.top());
            if (ticks < 1 || ticks > 1_000_000_000) return 3;
            part.due[timer] = time + ticks;
            return 0;
        }

        /** The COMPONENT that VALUE i on the stack is, or null. */
        private Part partAt(int i) {
            long cell = code.cellOf(i);
            long number = Store.told(cell);
            return Store.kind(cell) == Store.COMPONENT && number >= 0 && number < made ? parts[(int) number] : null;
        }

        private int start(Part part, int[] step) {
            Part other = partAt(0);
            int unit = step[Plan.WHAT];
            if (other == null) return 1;
            if (other.status != Part.FRESH || plan.unitKind[unit] != other.kind) return 6;
            putArguments(other.frameSlot(0), 1);
            launch(other, unit);
            return 0;
        }

        private int connect(int[] step) {
            Part one = partAt(0);
            Part other = partAt(1);
            if (one == null || other == null) return 1;
            int onePort = plan.portOf(one.kind, step[Plan.WHAT]);
            int otherPort = plan.portOf(other.kind, step[Plan.MORE]);
            if (onePort < 0 || otherPort < 0 || one.joined[onePort] >= 0 || other.joined[otherPort] >= 0) return 5;
            one.joined[onePort] = other.number * Plan.PORTS + otherPort;
            other.joined[otherPort] = one.number * Plan.PORTS + onePort;
            return 0;
        }

        private int stop(Part part, int[] step) {
            Part other = step[Plan.CODE] < 0 ? part : partAt(0);
            if (other == null) return 1;
            if (other.status != Part.ENDED) finish(other);
            return 0;
        }

        private int addUsual(Part part, int[] step) {
            if (part.usuals >= Part.USUALS) return 7;
            putArguments(part.usualSlot(part.usuals), 0);
            part.usualUnit[part.usuals] = step[Plan.WHAT];
            part.usuals++;
            return 0;
        }

        // ---- alternatives

        /** Whether a branch of the alt or event, or of the USUAL WAYS, can be taken: which. */
        private int look(Part part, int s) {
            int[] step = plan.steps[s];
            int frame = part.topSlot();
            int found = step[Plan.SORT] == Plan.ALT ? lookAtAll(part, step[Plan.FIRST], frame, -1, 0) : lookAt(part, s, frame, -1, 0);
            for (int i = part.usuals - 1; i >= 0 && found == NO; i--) {
                int unit = part.usualUnit[i];
                found = lookAtAll(part, plan.unitFirst[unit], part.usualSlot(i), unit, 1);
            }
            return found;
        }

        /** The branches from `first` on, of an altstep (or - 1) so deep, whose places are the slots from `frame` on. */
        private int lookAtAll(Part part, int first, int frame, int unit, int deep) {
            int found = NO;
            int s = first;
            for (int i = 0; i < Plan.STEPS && s >= 0 && found == NO; i++) {
                found = lookAt(part, s, frame, unit, deep);
                s = plan.steps[s][Plan.NEXT];
            }
            return found;
        }

        private int lookAt(Part part, int s, int frame, int unit, int deep) {
            int[] step = plan.steps[s];
            code.frame = frame;
            code.clear();
            if (step[Plan.GUARD] >= 0) {
                if (code.work(step[Plan.GUARD]) != 0) return WRONG;
                if (Store.kind(code.top()) != Store.TRUTH) return wrong(1);
                if (Store.told(code.top()) == 0) return NO;
                code.clear();
            }
            int found = NO;
            switch (step[Plan.SORT]) {
                case Plan.STEP: return lookInStep(part, step, deep);
                case Plan.RECEIVE:
                    int port = step[Plan.WHAT];
                    if (part.held[port] == 0) return NO;
                    if (step[Plan.FROM] >= 0) {
                        if (code.work(step[Plan.FROM]) != 0) return WRONG;
                        found = lookAtPart(-1, part.sender(port));
                        if (found != TAKEN) return found;
                        code.clear();
                    }
                    code.pushFrom(store.cells, part.queueSlot(port, 0) * Store.HEAVIEST);
                    if (code.work(step[Plan.BEFORE]) != 0) return WRONG;
                    found = templates.meets(step[Plan.MORE], code.stack, code.topAt()) ? TAKEN : NO;
                    break;
                case Plan.TIMEOUT:
                    long due = part.due[step[Plan.WHAT]];
                    if (due >= 0 && due <= time) found = TAKEN;
                    break;
                case Plan.DONE:
                    if (code.work(step[Plan.CODE]) != 0) return WRONG;
                    found = lookAtPart(Part.ENDED, -1);
                    break;
                default: found = TAKEN; break;
            }
            if (found == TAKEN) {
                takenStep = s;
                takenUnit = unit;
                takenFrame = frame;
            }
            return found;
        }

        private int wrong(int error) {
            code.error = error;
            return WRONG;
        }

        /** Whether the VALUE is a COMPONENT that is as wanted, or has this number. */
        private int lookAtPart(int status, int number) {
            Part other = partAt(0);
            if (other == null) return wrong(1);
            return other.status == status || other.number == number ? TAKEN : NO;
        }

        private int lookInStep(Part part, int[] step, int deep) {
            if (code.work(step[Plan.CODE]) != 0) return WRONG;
            if (deep >= STEPS_DEEP) return wrong(7);
            int frame = Store.LOOKED + deep * Plan.PLACES;
            putArguments(frame, 0);
            int unit = step[Plan.WHAT];
            return lookAtAll(part, plan.unitFirst[unit], frame, unit, deep + 1);
        }

        /** Takes the branch that look() found: 0 or the ERROR. */
        private int enter(Part part, int s) {
            // With no FRAME left for its altstep a branch is not gone into at all, whatever its 'into' would get.
            if (takenUnit >= 0 && part.frames >= Part.FRAMES) return 7;
            int[] step = plan.steps[takenStep];
            int unit = takenUnit >= 0 ? takenUnit : part.frameUnit[part.frames - 1];
            boolean receives = step[Plan.SORT] == Plan.RECEIVE;
            int slot = receives ? part.queueSlot(step[Plan.WHAT], 0) : -1;
            int into = receives ? step[Plan.INTO] : -1;
            if (into >= 0) {
                int type = typeOf(part, unit, into);
                if (type >= 0 && !types.holds(store.cells, slot * Store.HEAVIEST, types.roots[type])) return 4;
            }
            part.frameNext[part.frames - 1] = plan.after(s);
            if (takenUnit >= 0) {
                part.pushFrame(unit, step[Plan.FIRST]);
                for (int i = 0; i < Plan.PLACES; i++) store.copy(takenFrame + i, part.topSlot() + i);
            } else if (step[Plan.FIRST] >= 0) {
                part.frameNext[part.frames - 1] = step[Plan.FIRST];
            }
            if (receives) {
                int port = step[Plan.WHAT];
                store.noteValue(RECEIVED, part.number, port, store.cells, slot * Store.HEAVIEST);
                if (into >= 0) store.copy(slot, slotOf(part, into));
                part.dequeue(port);
            } else if (step[Plan.SORT] == Plan.TIMEOUT) {
                part.due[step[Plan.WHAT]] = -1;
                store.note(TIMED_OUT, part.number, step[Plan.WHAT]);
            }
            return 0;
        }
    }

    /** Systems of states, and whether one does but what another one can. */
    static final class Systems {
        private static final int MANY = 4, STATES = 8, QUIET = 8, PAIRS = 65_536, START = -1;

        /** By system, state, act: to which states, by bits. */
        private final int[] moves = new int[MANY * STATES * STATES];
        /** Of a pair of sets of states that has been reached: 1 more than the pair and act that led to it. */
        private final int[] from = new int[PAIRS];
        /** The pairs in the order in which they were reached; then the acts of THE BREAK. */
        final int[] order = new int[PAIRS + 1];
        int length;

        static boolean is(int m) {
            return m >= 0 && m < MANY;
        }

        boolean put(int m, int state, int act, int to, boolean is) {
            int spot = (m * STATES + state) * STATES + act;
            boolean was = (moves[spot] >> to & 1) != 0;
            if (is) moves[spot] |= 1 << to;
            else moves[spot] &= ~(1 << to);
            return was;
        }

        private int next(int m, int states, int act) {
            int set = 0;
            for (int s = 0; s < STATES; s++) {
                if ((states >> s & 1) != 0) set |= act == QUIET ? quiet(m, s) : moves[(m * STATES + s) * STATES + act];
            }
            return set;
        }

        /** The state itself, as a bit, if it tells nothing. */
        private int quiet(int m, int state) {
            int row = (m * STATES + state) * STATES;
            return (moves[row + 4] | moves[row + 5] | moves[row + 6] | moves[row + 7]) == 0 ? 1 << state : 0;
        }

        private boolean canGo(int m, int states, int act) {
            return next(m, states, act) != 0;
        }

        /** Whether m CONFORMS to n; else THE BREAK is found, as pairs are reached by the shortest, least rows. */
        boolean follows(int m, int n) {
            Arrays.fill(from, 0);
            order[0] = 1 << STATES | 1;
            from[order[0]] = START;
            int reached = 1;
            for (int i = 0; i < reached && i < PAIRS; i++) {
                int act = breaking(m, n, order[i]);
                if (act >= 0) {
                    writeBreak(order[i], act);
                    return false;
                }
                reached = reach(m, n, order[i], reached);
            }
            length = 0;
            return true;
        }

        /** The least act that m can tell behind a pair's row and n can't, or - 1. */
        private int breaking(int m, int n, int pair) {
            for (int act = 4; act <= QUIET; act++) {
                if (canGo(m, pair >> STATES, act) && !canGo(n, pair & 255, act)) return act;
            }
            return -1;
        }

        /** The pairs that an act leads to are put behind those that are reached: how many there are. */
        private int reach(int m, int n, int pair, int reached) {
            int count = reached;
            for (int act = 0; act <= QUIET; act++) {
                int mine = next(m, pair >> STATES, act);
                int others = next(n, pair & 255, act);
                int to = mine << STATES | others;
                if (mine != 0 && others != 0 && from[to] == 0 && count < PAIRS) {
                    from[to] = 1 + (pair << 4 | act);
                    order[count] = to;
                    count++;
                }
            }
            return count;
        }

        private void writeBreak(int last, int act) {
            length = 1;
            int pair = last;
            for (int i = 0; i < PAIRS && from[pair] != START; i++) {
                length++;
                pair = from[pair] - 1 >> 4;
            }
            pair = last;
            order[length - 1] = act;
            for (int i = length - 2; i >= 0; i--) {
                order[i] = from[pair] - 1 & 15;
                pair = from[pair] - 1 >> 4;
            }
        }

        /** Whether m can go an act behind the first k acts of THE BREAK. */
        boolean able(int m, int k, int act) {
            int states = 1;
            for (int i = 0; i < k && states != 0; i++) {
                states = next(m, states, order[i]);
            }
            return canGo(m, states, act);
        }
    }
}
