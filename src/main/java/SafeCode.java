import java.util.Arrays;

/**
 * Proves of programs of objects, before they run, where they can end by an error and where they can't; and runs them.
 *
 * All rows are made with the object and used again by every call, so that no call makes anything new.
 */
public final class SafeCode {

    private static final int MAX_TEXT = 16000;
    private static final int MAX_FED = 65536;
    private static final int FEED_BYTES = 20;
    private static final int MAX_CHARS = MAX_TEXT + 512;
    // A word of three letters (A.a) and the blank behind it give three words at most: never more than 12000 in a text.
    private static final int MAX_WORDS = 12288;
    private static final int BUCKETS = 1024;
    private static final int MAX_NAME = 24;

    private static final int KNOWN_CLASSES = 8;
    private static final int MAX_CLASSES = KNOWN_CLASSES + 24;
    private static final int MAX_FIELDS = 48;
    private static final int MAX_BODIES = 48;
    private static final int MAX_CODE = 1024;
    private static final int MAX_CATCHES = 64;
    private static final int MAX_SITES = 48;
    private static final int ALL_SITES = MAX_SITES + 6;
    private static final int MAX_LOCALS = 12;
    private static final int MAX_STACK = 8;
    private static final int ALL_HEIGHTS = (1 << MAX_STACK + 1) - 1;
    private static final int STACK = MAX_LOCALS;
    private static final int SLOTS = MAX_LOCALS + MAX_STACK;
    private static final int MAX_ENDS = 7 + 3 * MAX_CODE;
    private static final int WAIT_WORDS = MAX_CODE / 64;
    // Far above what any text can need. Each round of the heights and types but the last one changes something, which
    // less than 2^20 can. In the proof each look but the first one is due to a change: each slot of a state has less than
    // 2^12, all of them less than 2^27, and what is beside the states less than 2^23, each of which wakes at most the 2^10
    // instructions: less than 2^34 looks.
    private static final long MANY_ROUNDS = 1L << 40;

    private static final int MAX_INPUT = 256;
    private static final int MAX_OUTPUT = 256;
    private static final int MAX_FUEL = 20000;
    private static final int MAX_OBJECTS = 2000;
    private static final int MAX_CELLS = 12000;
    private static final int MAX_DEPTH = 64;

    // The instructions: each is the number of its word, too.
    private static final int PUSH = 0;
    private static final int NULL = 1;
    private static final int LOAD = 2;
    private static final int STORE = 3;
    private static final int INC = 4;
    private static final int DUP = 5;
    private static final int POP = 6;
    private static final int SWAP = 7;
    private static final int ADD = 8;
    private static final int SUB = 9;
    private static final int MUL = 10;
    private static final int DIV = 11;
    private static final int REM = 12;
    private static final int AND = 13;
    private static final int OR = 14;
    private static final int XOR = 15;
    private static final int SHL = 16;
    private static final int SHR = 17;
    private static final int NEG = 18;
    private static final int GOTO = 19;
    private static final int EQ = 20;
    private static final int NE = 21;
    private static final int LT = 22;
    private static final int LE = 23;
    private static final int GT = 24;
    private static final int GE = 25;
    private static final int ISNULL = 26;
    private static final int NOTNULL = 27;
    private static final int SAME = 28;
    private static final int OTHER = 29;
    private static final int NEW = 30;
    private static final int ARRAY = 31;
    private static final int LENGTH = 32;
    private static final int ALOAD = 33;
    private static final int ASTORE = 34;
    private static final int GET = 35;
    private static final int PUT = 36;
    private static final int CAST = 37;
    private static final int IS = 38;
    private static final int CALL = 39;
    private static final int SEND = 40;
    private static final int THROW = 41;
    private static final int GIVE = 42;
    private static final int BACK = 43;
    private static final int READ = 44;
    private static final int WRITE = 45;
    private static final int OPS = 46;

    // The other words that every text knows, numbered on behind the instructions.
    private static final int W_CATCH = 46;
    private static final int W_CLASS = 47;
    private static final int W_OF = 48;
    private static final int W_FIELD = 49;
    private static final int W_STATIC = 50;
    private static final int W_METHOD = 51;
    private static final int W_INT = 52;
    private static final int W_NONE = 53;
    private static final int W_INTS = 54;
    private static final int W_OPEN = 55;
    private static final int W_CLOSE = 56;
    private static final int W_LEFT = 57;
    private static final int W_RIGHT = 58;
    private static final int W_COLON = 59;
    private static final int W_OBJECT = 60;
    private static final int W_MAIN_CLASS = W_OBJECT + KNOWN_CLASSES;
    private static final int W_MAIN = W_MAIN_CLASS + 1;
    private static final int NO_WORD = -1;

    private static final String INSTRUCTIONS = "push null load store inc dup pop swap add sub mul div rem and or xor shl shr neg goto eq ne lt le gt ge isnull notnull same other new array length aload astore get put cast is call send throw give back read write";
    private static final String KEYWORDS = "catch class of field static method int none int[] ( ) { } :";
    private static final String KNOWN_NAMES = "Object Error NullError IndexError SizeError DivideError CastError StoreError Main main";

    // The shapes of words.
    private static final int NO_SHAPE = 0;
    private static final int NAME = 1;
    private static final int CLASS_NAME = 2;
    private static final int NUMBER = 3;
    private static final int CLASS_ARRAY = 4;
    private static final int REFERENCE = 5;

    // The kinds of operands.
    private static final int OPERAND_N = 1;
    private static final int OPERAND_K = 2;
    private static final int OPERAND_K_N = 3;
    private static final int OPERAND_L = 4;
    private static final int OPERAND_C = 5;
    private static final int OPERAND_E = 6;
    private static final int OPERAND_T = 7;
    private static final int OPERAND_F = 8;

    private static final int[] OPERANDS = {
        1, 0, 2, 2, 3, 0, 0, 0, 0, 0, 0, 0, 0, 0, 0, 0, 0, 0, 0, 4, 4, 4, 4, 4, 4, 4,
        4, 4, 4, 4, 5, 6, 0, 0, 0, 8, 8, 7, 7, 8, 8, 0, 0, 0, 0, 0};
    // What call and send take and leave is told by the body.
    private static final int[] TAKES = {
        0, 0, 0, 1, 0, 1, 1, 2, 2, 2, 2, 2, 2, 2, 2, 2, 2, 2, 1, 0, 2, 2, 2, 2, 2, 2,
        1, 1, 2, 2, 0, 1, 1, 2, 3, 1, 2, 1, 1, 0, 0, 1, 1, 0, 0, 1};
    private static final int[] LEAVES = {
        1, 1, 1, 0, 0, 2, 0, 2, 1, 1, 1, 1, 1, 1, 1, 1, 1, 1, 1, 0, 0, 0, 0, 0, 0, 0,
        0, 0, 0, 0, 1, 1, 1, 1, 0, 1, 0, 1, 1, 0, 0, 0, 0, 0, 1, 0};
    // A hexadecimal digit for each thing taken, the highest on the stack last.
    private static final int[] WANTS = {
        0, 0, 0, 4, 0, 4, 4, 0x44, 0x11, 0x11, 0x11, 0x11, 0x11, 0x11, 0x11, 0x11, 0x11, 0x11, 1, 0,
        0x11, 0x11, 0x11, 0x11, 0x11, 0x11, 2, 2, 0x22, 0x22, 0, 1, 3, 0x31, 0x317, 5, 0x56, 2, 2, 0, 0, 8, 9, 0, 0, 1};
    private static final int WANT_INT = 1;
    private static final int WANT_REF = 2;
    private static final int WANT_ARRAY = 3;
    private static final int WANT_ANYTHING = 4;
    private static final int WANT_OWNER = 5;
    private static final int WANT_FIELD = 6;
    private static final int WANT_ELEMENT = 7;
    private static final int WANT_ERROR = 8;

    // Types: class c is T_CLASS + 2c, and an array of it one more.
    private static final int T_STOP = -3;
    private static final int T_MISSING = -2;
    private static final int T_NONE = -1;
    private static final int T_UNSET = 0;
    private static final int T_INT = 1;
    private static final int T_NULL = 2;
    private static final int T_INTS = 3;
    private static final int T_CLASS = 4;
    private static final int T_OBJECT = T_CLASS;
    private static final int T_ERROR = T_CLASS + 2;
    private static final int ERROR_CLASS = 1;

    private static final int NULL_ERROR = 0;
    private static final int INDEX_ERROR = 1;
    private static final int SIZE_ERROR = 2;
    private static final int DIVIDE_ERROR = 3;
    private static final int CAST_ERROR = 4;
    private static final int STORE_ERROR = 5;
    private static final int FIRST_ERROR_CLASS = 2;

    private static final int THROWS_SITES = 64;
    private static final int CALLS_THROWER = 128;
    private static final int REACHED = 256;
    private static final int GOES_NOWHERE = 512;

    // A value is a set of sites with perhaps NULL, or a range: its lowest in the upper half, its highest in the lower.
    private static final long NULL_BIT = 1L << 62;
    private static final long SITE_BITS = (1L << ALL_SITES) - 1;

    // What is told of a slot beside its value: four sets of locals, the COPY (0 none, k + 1 local k), the kind.
    private static final long ONE_SET = (1L << MAX_LOCALS) - 1;
    private static final int UNDER_SHIFT = MAX_LOCALS;
    private static final int LENGTH_SHIFT = 2 * MAX_LOCALS;
    private static final int SIZED_SHIFT = 3 * MAX_LOCALS;
    private static final int COPY_SHIFT = 4 * MAX_LOCALS;
    private static final int KIND_SHIFT = COPY_SHIFT + 4;
    private static final long LESS_SET = ONE_SET;
    private static final long UNDER_SET = ONE_SET << UNDER_SHIFT;
    private static final long LENGTH_SET = ONE_SET << LENGTH_SHIFT;
    private static final long SIZED_SET = ONE_SET << SIZED_SHIFT;
    private static final long ALL_SETS = LESS_SET | UNDER_SET | LENGTH_SET | SIZED_SET;
    private static final long INT_SETS = LESS_SET | UNDER_SET | LENGTH_SET;
    private static final long ONE_IN_ALL = 1L | 1L << UNDER_SHIFT | 1L << LENGTH_SHIFT | 1L << SIZED_SHIFT;
    private static final long COPY_BITS = 15L << COPY_SHIFT;
    private static final long INT_KIND = 1L << KIND_SHIFT;
    private static final long REF_KIND = 2L << KIND_SHIFT;
    private static final long KIND_BITS = INT_KIND | REF_KIND;

    private static final int BACK_IN_MAIN = 0;
    private static final int THROWN_OUT = 1;
    private static final int NO_FUEL = 2;
    private static final int HEAP_FULL = 3;
    private static final int TOO_DEEP = 4;
    private static final int RUNNING = 5;

    private final byte[] fed = new byte[MAX_TEXT];
    private int fedNow;
    private int fedInAll;
    private final Words words = new Words();
    private Program program = new Program();
    private Program draft = new Program();
    private boolean loaded;
    private int faultToken = -1;
    private final Reader reader = new Reader(words, draft);
    private final Types types = new Types(draft);
    private final Proof proof = new Proof(draft);
    // All 0 behind the input: so much is read there.
    private final int[] waitingInput = new int[MAX_INPUT];
    private int inputCount;
    private final Machine machine = new Machine(draft, proof, waitingInput);

    public SafeCode() {
    }

    public int feed(int a, int b, int c, int d, int e) {
        if (fedNow + FEED_BYTES > MAX_TEXT || fedInAll + FEED_BYTES > MAX_FED) {
            return -1;
        }
        feedWord(a);
        feedWord(b);
        feedWord(c);
        feedWord(d);
        feedWord(e);
        fedInAll += FEED_BYTES;
        return fedNow;
    }

    private void feedWord(int w) {
        for (int shift = 24; shift >= 0; shift -= 8) {
            fed[fedNow] = (byte) (w >>> shift);
            fedNow++;
        }
    }

    public boolean end(int n) {
        if (n < 0 || n > fedNow) {
            return false;
        }
        words.setText(fed, n);
        fedNow = 0;
        return true;
    }

    public int load() {
        int fault = 0;
        faultToken = -1;
        if (!words.cutText()) {
            fault = 1;
            faultToken = words.tokens;
        }
        if (fault == 0) {
            faultToken = reader.checkForm();
            fault = faultToken < 0 ? 0 : 2;
        }
        if (fault == 0) {
            faultToken = reader.resolveNames(draft);
            fault = faultToken < 0 ? 0 : 3;
        }
        if (fault == 0) {
            int wrong = types.firstWrong(draft);
            faultToken = wrong < 0 ? -1 : draft.token[wrong];
            fault = wrong < 0 ? 0 : 4;
        }
        if (fault == 0) {
            Program old = program;
            program = draft;
            draft = old;
            loaded = true;
            proof.prove(program);
        }
        return fault;
    }

    public int faultAt() {
        return faultToken;
    }

    public int size(int what) {
        if (!loaded) {
            return -1;
        }
        switch (what) {
            case 0: return program.count;
            case 1: return program.siteCount;
            case 2: return program.bodies.count;
            case 3: return program.ranges.count;
            case 4: return program.classes.count - KNOWN_CLASSES;
            default: return -1;
        }
    }

    private boolean isInstruction(int i) {
        return loaded && i >= 0 && i < program.count;
    }

    public int errors(int i) {
        return isInstruction(i) ? proof.found[i] : -1;
    }

    public long escapes(int i) {
        return isInstruction(i) ? proof.escaping[i] : 0L;
    }

    public long ends() {
        return loaded ? proof.store.thrownBy[program.bodies.main] : 0L;
    }

    /** Where slot s of instruction i stands in the rows of the states; -1 if there is none. */
    private int slotAt(int i, int s) {
        if (!isInstruction(i) || s < 0 || s >= SLOTS || !proof.states.reached[i]) {
            return -1;
        }
        boolean there = s < STACK ? s < program.bodies.locals[program.bodyOf[i]] : s - STACK < program.height[i];
        return there ? i * SLOTS + s : -1;
    }

    private long factsAt(int i, int s) {
        int at = slotAt(i, s);
        return at < 0 ? 0L : proof.states.facts[at];
    }

    private long valueAt(int i, int s) {
        int at = slotAt(i, s);
        return at < 0 ? 0L : proof.states.values[at];
    }

    public int kind(int i, int s) {
        return (int) (factsAt(i, s) >>> KIND_SHIFT);
    }

    public int low(int i, int s) {
        return (factsAt(i, s) & INT_KIND) == 0L ? 0 : Ranges.lowest(valueAt(i, s));
    }

    public int high(int i, int s) {
        return (factsAt(i, s) & INT_KIND) == 0L ? 0 : Ranges.highest(valueAt(i, s));
    }

    public long sites(int i, int s) {
        return (factsAt(i, s) & REF_KIND) == 0L ? 0L : valueAt(i, s);
    }

    public int fact(int i, int s, int which) {
        long facts = factsAt(i, s);
        switch (which) {
            case 0: return States.copyOf(facts);
            case 1: return (int) (facts & ONE_SET);
            case 2: return (int) (facts >>> UNDER_SHIFT & ONE_SET);
            case 3: return (int) (facts >>> LENGTH_SHIFT & ONE_SET);
            case 4: return (int) (facts >>> SIZED_SHIFT & ONE_SET);
            default: return 0;
        }
    }

    public int lengths(int s, int which) {
        if (!loaded || s < 0 || s >= program.siteCount || which < 0 || which > 1) {
            return -1;
        }
        long told = proof.store.lengths[s];
        if (Ranges.isNothing(told)) {
            return -1;
        }
        return which == 0 ? Ranges.lowest(told) : Ranges.highest(told);
    }

    public boolean input(int v) {
        if (inputCount >= MAX_INPUT) {
            return false;
        }
        waitingInput[inputCount] = v;
        inputCount++;
        return true;
    }

    public int run(int fuel) {
        if (!loaded || fuel < 0 || fuel > MAX_FUEL) {
            return -1;
        }
        int outcome = machine.execute(program, fuel);
        Arrays.fill(waitingInput, 0);
        inputCount = 0;
        return outcome;
    }

    public int steps() {
        return machine.stepCount;
    }

    public int place() {
        return machine.endPlace;
    }

    public int thrown() {
        return machine.thrownSite;
    }

    public int written() {
        return machine.outputCount;
    }

    public int out(int k) {
        return k < 0 || k >= MAX_OUTPUT || k >= machine.outputCount ? 0 : machine.output[k];
    }

    public int strays() {
        return machine.strayCount;
    }

    /** The text, cut into tokens, and its words, each kept once and told by a number. */
    private static final class Words {
        private final byte[] chars = new byte[MAX_CHARS];
        private final int textFrom;
        private int textTo;
        private final int[] token = new int[MAX_TEXT];
        int tokens;
        private int count;
        private final int[] from = new int[MAX_WORDS];
        private final int[] to = new int[MAX_WORDS];
        private final int[] next = new int[MAX_WORDS];
        private final int[] bucket = new int[BUCKETS];
        // The words that every text knows are kept but once.
        private final int fixedCount;
        private final int[] fixedBucket;
        private final byte[] shape = new byte[MAX_WORDS];
        // Of a number its value; of a class name its class; of a name the token where it is a label and the instruction
        // there; of the array of a class the class's word; of a reference the class's word and the name's. -1: none.
        private final int[] first = new int[MAX_WORDS];
        private final int[] second = new int[MAX_WORDS];

        Words() {
            int n = putFixed(INSTRUCTIONS, 0);
            n = putFixed(KEYWORDS, n);
            textFrom = putFixed(KNOWN_NAMES, n);
            textTo = textFrom;
            Arrays.fill(bucket, NO_WORD);
            cut(0, textFrom);
            shapeWords(0);
            fixedCount = count;
            fixedBucket = bucket.clone();
        }

        private int putFixed(String fixed, int at) {
            for (int k = 0; k < fixed.length() && at + k < MAX_CHARS; k++) {
                chars[at + k] = (byte) fixed.charAt(k);
            }
            int behind = at + fixed.length();
            if (behind < MAX_CHARS) {
                chars[behind] = ' ';
            }
            return behind + 1;
        }

        void setText(byte[] bytes, int n) {
            if (n >= 0 && n <= bytes.length && n <= MAX_TEXT) {
                System.arraycopy(bytes, 0, chars, textFrom, n);
                textTo = textFrom + n;
            }
        }

        /** Cuts the text, which is used up, into tokens; false if it has a byte that none may have. */
        boolean cutText() {
            System.arraycopy(fixedBucket, 0, bucket, 0, BUCKETS);
            count = fixedCount;
            tokens = 0;
            boolean fine = cut(textFrom, textTo);
            textTo = textFrom;
            if (fine) {
                forgetMeanings();
                shapeWords(fixedCount);
            }
            return fine;
        }

        private boolean cut(int begin, int end) {
            int open = -1;
            boolean remark = false;
            boolean fine = true;
            int p = begin;
            for (; fine && p < end; p++) {
                int c = chars[p];
                fine = c >= ' ' && c <= '~' || c == '\t' || c == '\n' || c == '\r';
                remark = c == ';' || remark && c != '\n';
                boolean mark = c == '(' || c == ')' || c == '{' || c == '}' || c == ':';
                boolean inside = fine && !remark && c > ' ' && !mark;
                if (!inside && open >= 0) {
                    addToken(open, p);
                    open = -1;
                }
                if (inside && open < 0) {
                    open = p;
                }
                if (mark && !remark) {
                    addToken(p, p + 1);
                }
            }
            if (open >= 0) {
                addToken(open, p);
            }
            return fine;
        }

        private void addToken(int begin, int end) {
            if (tokens < MAX_TEXT) {
                token[tokens] = keep(begin, end);
                tokens++;
            }
        }

        /** The number of the word that stands there. */
        private int keep(int begin, int end) {
            int hash = 0;
            for (int p = begin; p < end; p++) {
                hash = hash * 31 + chars[p];
            }
            int b = (hash ^ hash >>> 10) & BUCKETS - 1;
            int w = bucket[b];
            for (int n = 0; n < MAX_WORDS && w >= 0; n++) {
                if (isWord(w, begin, end)) {
                    return w;
                }
                w = next[w];
            }
            if (count >= MAX_WORDS) {
                return NO_WORD;
            }
            from[count] = begin;
            to[count] = end;
            next[count] = bucket[b];
            bucket[b] = count;
            count++;
            return count - 1;
        }

        private boolean isWord(int w, int begin, int end) {
            int length = end - begin;
            if (to[w] - from[w] != length) {
                return false;
            }
            for (int k = 0; k < length; k++) {
                if (chars[from[w] + k] != chars[begin + k]) {
                    return false;
                }
            }
            return true;
        }

        /** An earlier text may have had classes and labels of these names. */
        private void forgetMeanings() {
            for (int w = 0; w < fixedCount; w++) {
                int c = w - W_OBJECT;
                first[w] = c >= 0 && c < KNOWN_CLASSES ? c : -1;
                second[w] = -1;
            }
        }

        /** The parts of words are words too: they come behind, while this still goes on. */
        private void shapeWords(int from) {
            for (int w = from; w < MAX_WORDS && w < count; w++) {
                first[w] = -1;
                second[w] = -1;
                shape[w] = (byte) shapeOf(w);
            }
        }

        private int shapeOf(int w) {
            int begin = from[w];
            int end = to[w];
            int plain = nameShape(begin, end);
            if (plain != NO_SHAPE) {
                return plain;
            }
            if (isNumber(begin, end)) {
                first[w] = (int) numberAt(begin, end);
                return NUMBER;
            }
            if (end - begin > 2 && chars[end - 2] == '[' && chars[end - 1] == ']' && nameShape(begin, end - 2) == CLASS_NAME) {
                first[w] = keep(begin, end - 2);
                return CLASS_ARRAY;
            }
            int dot = begin;
            while (dot < end && chars[dot] != '.') {
                dot++;
            }
            if (nameShape(begin, dot) == CLASS_NAME && nameShape(dot + 1, end) == NAME) {
                first[w] = keep(begin, dot);
                second[w] = keep(dot + 1, end);
                return REFERENCE;
            }
            return NO_SHAPE;
        }

        private int nameShape(int begin, int end) {
            if (end <= begin || end - begin > MAX_NAME) {
                return NO_SHAPE;
            }
            for (int p = begin; p < end; p++) {
                int c = chars[p];
                boolean letter = c >= 'a' && c <= 'z' || c >= 'A' && c <= 'Z';
                if (!letter && (p == begin || c != '_' && (c < '0' || c > '9'))) {
                    return NO_SHAPE;
                }
            }
            return chars[begin] >= 'a' ? NAME : CLASS_NAME;
        }

        private boolean isNumber(int begin, int end) {
            int digits = chars[begin] == '-' ? begin + 1 : begin;
            if (end - digits < 1 || end - digits > 10) {
                return false;
            }
            for (int p = digits; p < end; p++) {
                if (chars[p] < '0' || chars[p] > '9') {
                    return false;
                }
            }
            long value = numberAt(begin, end);
            return value == (int) value;
        }

        private long numberAt(int begin, int end) {
            boolean below = chars[begin] == '-';
            long value = 0L;
            for (int p = below ? begin + 1 : begin; p < end; p++) {
                value = value * 10L + (chars[p] - '0');
            }
            return below ? -value : value;
        }

        /** The word of token t; NO_WORD behind the last one. */
        int at(int t) {
            return t >= 0 && t < tokens ? token[t] : NO_WORD;
        }

        boolean hasShape(int w, int wanted) {
            return w >= 0 && w < count && shape[w] == wanted;
        }

        boolean isType(int w) {
            return w == W_INT || w == W_INTS || hasShape(w, CLASS_NAME) || hasShape(w, CLASS_ARRAY);
        }

        int firstOf(int w) {
            return w >= 0 && w < count ? first[w] : -1;
        }

        int secondOf(int w) {
            return w >= 0 && w < count ? second[w] : -1;
        }

        void setMeaning(int w, int one, int two) {
            if (w >= 0 && w < count) {
                first[w] = one;
                second[w] = two;
            }
        }

        int typeOf(int w) {
            if (w == W_INT) {
                return T_INT;
            }
            if (w == W_INTS) {
                return T_INTS;
            }
            if (w == W_NONE) {
                return T_NONE;
            }
            boolean array = hasShape(w, CLASS_ARRAY);
            int c = firstOf(array ? firstOf(w) : w);
            return c < 0 ? T_MISSING : T_CLASS + 2 * c + (array ? 1 : 0);
        }
    }

    /** Reads the tokens as a program: first its form, then its names, walk by walk. */
    private static final class Reader {
        private final Words words;
        private Program program;
        private int at;
        private int operand;
        private int operand2;

        Reader(Words words, Program program) {
            this.words = words;
            this.program = program;
        }

        /** The first token with which those so far begin no program; -1 if they are one. */
        int checkForm() {
            at = 0;
            boolean fine = true;
            for (int n = 0; n < MAX_TEXT && fine && at < words.tokens; n++) {
                fine = takesWord(W_CLASS) && takesShape(CLASS_NAME) && takesWord(W_OF) && takesShape(CLASS_NAME)
                    && takesWord(W_LEFT) && takesMembers();
            }
            return fine ? -1 : at;
        }

        private boolean step(boolean fine) {
            if (fine) {
                at++;
            }
            return fine;
        }

        private boolean takesWord(int w) {
            return step(words.at(at) == w);
        }

        private boolean takesShape(int shape) {
            return step(words.hasShape(words.at(at), shape));
        }

        private boolean takesType() {
            return step(words.isType(words.at(at)));
        }

        private boolean takesMembers() {
            for (int n = 0; n < MAX_TEXT; n++) {
                int w = words.at(at);
                if (w == W_RIGHT) {
                    return step(true);
                }
                boolean fine = false;
                if (w == W_FIELD) {
                    fine = step(true) && takesShape(NAME) && takesType();
                } else if (w == W_STATIC || w == W_METHOD) {
                    fine = step(true) && takesHead() && takesLines();
                }
                if (!fine) {
                    return false;
                }
            }
            return false;
        }

        private boolean takesHead() {
            if (!takesShape(NAME) || !takesWord(W_OPEN)) {
                return false;
            }
            while (at < words.tokens && words.isType(words.at(at))) {
                at++;
            }
            return takesWord(W_CLOSE) && (takesWord(W_NONE) || takesType()) && takesShape(NUMBER) && takesWord(W_LEFT);
        }

        private boolean takesLines() {
            for (int n = 0; n < MAX_TEXT; n++) {
                int w = words.at(at);
                if (w == W_RIGHT) {
                    return step(true);
                }
                boolean name = words.hasShape(w, NAME);
                boolean fine;
                if (words.at(at + 1) == W_COLON) {
                    fine = step(name) && step(true);
                } else if (w == W_CATCH) {
                    fine = step(true) && takesShape(NAME) && takesShape(NAME) && takesShape(NAME) && takesShape(CLASS_NAME);
                } else if (w >= 0 && w < OPS) {
                    fine = step(true) && takesOperands(OPERANDS[w]);
                } else {
                    // A name could still be a label: it is what stands behind it that can't.
                    step(name);
                    fine = false;
                }
                if (!fine) {
                    return false;
                }
            }
            return false;
        }

        private boolean takesOperands(int kind) {
            int w = words.at(at);
            switch (kind) {
                case OPERAND_N:
                case OPERAND_K: return takesShape(NUMBER);
                case OPERAND_K_N: return takesShape(NUMBER) && takesShape(NUMBER);
                case OPERAND_L: return takesShape(NAME);
                case OPERAND_C: return takesShape(CLASS_NAME);
                case OPERAND_E: return takesWord(W_INT) || takesShape(CLASS_NAME);
                case OPERAND_T: return w != W_INT && takesType();
                case OPERAND_F: return takesShape(REFERENCE);
                default: return true;
            }
        }

        /** Makes the program of a text of the right form: the token of the first wrong name, or -1. */
        int resolveNames(Program made) {
            program = made;
            program.clear();
            int wrong = walkClasses();
            if (wrong < 0) {
                wrong = walkMembers();
            }
            for (int b = 0; b < program.bodies.count && wrong < 0; b++) {
                wrong = walkLines(b);
            }
            if (wrong >= 0) {
                return wrong;
            }
            program.bodies.fillRuns(program.classes);
            program.bodies.main = program.bodies.mainOf(words.firstOf(W_MAIN_CLASS));
            return program.bodies.main < 0 ? words.tokens : -1;
        }

        private int walkClasses() {
            int depth = 0;
            for (int t = 0; t < words.tokens; t++) {
                int w = words.at(t);
                if (w == W_LEFT) {
                    depth++;
                } else if (w == W_RIGHT) {
                    depth--;
                } else if (depth == 0) {
                    int name = words.at(t + 1);
                    int up = words.firstOf(words.at(t + 3));
                    if (words.firstOf(name) >= 0 || program.classes.count >= MAX_CLASSES) {
                        return t + 1;
                    }
                    if (up < 0) {
                        return t + 3;
                    }
                    words.setMeaning(name, program.classes.add(up), -1);
                    t += 3;
                }
            }
            return -1;
        }

        private int walkMembers() {
            int depth = 0;
            int owner = KNOWN_CLASSES - 1;
            for (int t = 0; t < words.tokens; t++) {
                int w = words.at(t);
                int wrong = -1;
                if (w == W_LEFT) {
                    depth++;
                } else if (w == W_RIGHT) {
                    depth--;
                } else if (depth == 0) {
                    owner++;
                    t += 3;
                } else if (depth == 1 && w == W_FIELD) {
                    wrong = resolveField(t, owner);
                    t += 2;
                } else if (depth == 1) {
                    wrong = resolveHead(t, owner);
                    t = at;
                }
                if (wrong >= 0) {
                    return wrong;
                }
            }
            return -1;
        }

        private int resolveField(int t, int owner) {
            Classes classes = program.classes;
            int name = words.at(t + 1);
            int type = words.typeOf(words.at(t + 2));
            if (classes.findField(owner, name) >= 0 || classes.fieldCount >= MAX_FIELDS) {
                return t + 1;
            }
            if (type == T_MISSING) {
                return t + 2;
            }
            classes.addField(owner, name, type);
            return -1;
        }

        /** Leaves at on the token of LOCALS. */
        private int resolveHead(int t, int owner) {
            Bodies bodies = program.bodies;
            at = t;
            if (bodies.count >= MAX_BODIES) {
                return t + 1;
            }
            int name = words.at(t + 1);
            bodies.begin(owner, name, words.at(t) == W_METHOD);
            int missing = -1;
            int type;
            for (at = t + 3; at < words.tokens && words.at(at) != W_CLOSE; at++) {
                type = words.typeOf(words.at(at));
                bodies.addParameter(type);
                missing = type == T_MISSING && missing < 0 ? at : missing;
            }
            at++;
            type = words.typeOf(words.at(at));
            missing = type == T_MISSING && missing < 0 ? at : missing;
            at++;
            int locals = words.firstOf(words.at(at));
            bodies.finish(type, locals, at + 1);
            int above = bodies.nearest(program.classes, owner, name);
            if (above >= 0 && !bodies.mayReplace(above)) {
                return t + 1;
            }
            if (missing >= 0) {
                return missing;
            }
            if (locals < 0 || locals > MAX_LOCALS || locals < bodies.arity[bodies.count]) {
                return at;
            }
            bodies.count++;
            return -1;
        }

        private int walkLines(int b) {
            Bodies bodies = program.bodies;
            int open = bodies.openToken[b];
            bodies.start[b] = program.count;
            bodies.catchStart[b] = program.catchCount;
            bodies.end[b] = markLabels(open);
            at = open + 1;
            for (int n = 0; n < MAX_TEXT && words.at(at) != W_RIGHT; n++) {
                int w = words.at(at);
                int wrong;
                if (words.at(at + 1) == W_COLON) {
                    wrong = words.firstOf(w) == at ? -1 : at;
                } else if (w == W_CATCH) {
                    wrong = resolveCatch(b, at);
                } else {
                    wrong = resolveInstruction(b, at);
                }
                if (wrong >= 0) {
                    return wrong;
                }
                at += lineTokens(at);
            }
            bodies.catchEnd[b] = program.catchCount;
            return program.closes(bodies.start[b]) ? -1 : at;
        }

        private int lineTokens(int t) {
            if (words.at(t + 1) == W_COLON) {
                return 2;
            }
            int w = words.at(t);
            if (w < 0 || w >= OPS) {
                return 5;
            }
            int kind = OPERANDS[w];
            return kind == 0 ? 1 : kind == OPERAND_K_N ? 3 : 2;
        }

        /** Tells every label of a body where it stands; answers the number of the instruction behind the body. */
        private int markLabels(int open) {
            int t = open + 1;
            int here = program.count;
            for (int n = 0; n < MAX_TEXT && t < words.tokens && words.at(t) != W_RIGHT; n++) {
                int w = words.at(t);
                if (words.at(t + 1) == W_COLON) {
                    if (words.firstOf(w) <= open) {
                        words.setMeaning(w, t, here);
                    }
                } else if (w != W_CATCH) {
                    here++;
                }
                t += lineTokens(t);
            }
            return here;
        }

        /** The instruction at a label; -1 if the body has none such. */
        private int labelAt(int b, int t) {
            int w = words.at(t);
            return words.firstOf(w) > program.bodies.openToken[b] ? words.secondOf(w) : -1;
        }

        private int resolveCatch(int b, int t) {
            if (program.catchCount >= MAX_CATCHES) {
                return t;
            }
            int begin = labelAt(b, t + 1);
            if (begin < 0) {
                return t + 1;
            }
            int end = labelAt(b, t + 2);
            if (end < 0 || end <= begin) {
                return t + 2;
            }
            int handler = labelAt(b, t + 3);
            if (handler < 0 || handler >= program.bodies.end[b]) {
                return t + 3;
            }
            int c = words.firstOf(words.at(t + 4));
            if (c < 0 || !program.classes.isAbove(ERROR_CLASS, c)) {
                return t + 4;
            }
            program.addCatch(begin, end, handler, c);
            return -1;
        }

        private int resolveInstruction(int b, int t) {
            int op = words.at(t);
            boolean makes = op == NEW || op == ARRAY;
            if (op < 0 || op >= OPS || program.count >= MAX_CODE || makes && program.siteCount >= MAX_SITES) {
                return t;
            }
            operand = 0;
            operand2 = 0;
            if (!resolveOperands(b, t + 1, op)) {
                return t + 1;
            }
            if (makes) {
                operand2 = program.addSite(op == NEW ? T_CLASS + 2 * operand : operand == T_INT ? T_INTS : operand + 1);
            }
            program.add(op, operand, operand2, t, b);
            return -1;
        }

        private boolean resolveOperands(int b, int t, int op) {
            int w = words.at(t);
            switch (OPERANDS[op]) {
                case OPERAND_N:
                    operand = words.firstOf(w);
                    return true;
                case OPERAND_K_N:
                    operand2 = words.firstOf(words.at(t + 1));
                    operand = words.firstOf(w);
                    return operand >= 0 && operand < program.bodies.locals[b];
                case OPERAND_K:
                    operand = words.firstOf(w);
                    return operand >= 0 && operand < program.bodies.locals[b];
                case OPERAND_L:
                    operand = labelAt(b, t);
                    return operand >= 0 && operand < program.bodies.end[b];
                case OPERAND_C:
                    operand = words.firstOf(w);
                    return operand >= 0;
                case OPERAND_E:
                case OPERAND_T:
                    operand = words.typeOf(w);
                    return operand != T_MISSING;
                case OPERAND_F:
                    return resolveMember(w, op);
                default:
                    return true;
            }
        }

        private boolean resolveMember(int w, int op) {
            int name = words.secondOf(w);
            operand2 = words.firstOf(words.firstOf(w));
            if (operand2 < 0) {
                return false;
            }
            if (op == GET || op == PUT) {
                operand = program.classes.findField(operand2, name);
                return operand >= 0;
            }
            operand = program.bodies.nearest(program.classes, operand2, name);
            return operand >= 0 && program.bodies.method[operand] == (op == SEND);
        }
    }

    /** The classes with their fields, and which type is below which. */
    private static final class Classes {
        int count;
        private final int[] up = new int[MAX_CLASSES];
        // Bit d of above[c]: class d is c or above it. Those above have lower numbers.
        private final int[] above = new int[MAX_CLASSES];
        final int[] cells = new int[MAX_CLASSES];
        int fieldCount;
        private final int[] fieldName = new int[MAX_FIELDS];
        final int[] fieldOwner = new int[MAX_FIELDS];
        final int[] fieldType = new int[MAX_FIELDS];
        final int[] fieldPlace = new int[MAX_FIELDS];

        void clear() {
            count = 1;
            fieldCount = 0;
            up[0] = -1;
            above[0] = 1;
            Arrays.fill(cells, 0);
            add(0);
            for (int c = FIRST_ERROR_CLASS; c < KNOWN_CLASSES; c++) {
                add(ERROR_CLASS);
            }
        }

        int add(int over) {
            if (count >= MAX_CLASSES) {
                return -1;
            }
            up[count] = over;
            above[count] = above[over] | 1 << count;
            count++;
            return count - 1;
        }

        int upOf(int c) {
            return up[c];
        }

        boolean isAbove(int d, int c) {
            return (above[c] >>> d & 1) != 0;
        }

        int findField(int c, int name) {
            for (int f = 0; f < fieldCount; f++) {
                if (fieldName[f] == name && isAbove(fieldOwner[f], c)) {
                    return f;
                }
            }
            return -1;
        }

        void addField(int owner, int name, int type) {
            if (fieldCount >= MAX_FIELDS) {
                return;
            }
            fieldName[fieldCount] = name;
            fieldOwner[fieldCount] = owner;
            fieldType[fieldCount] = type;
            fieldCount++;
        }

        /** Gives each field its place in an object, behind those of the classes above. */
        void placeFields() {
            int f = 0;
            for (int c = KNOWN_CLASSES; c < count; c++) {
                cells[c] = cells[up[c]];
                while (f < fieldCount && fieldOwner[f] == c) {
                    fieldPlace[f] = cells[c];
                    cells[c]++;
                    f++;
                }
            }
        }

        static boolean isRef(int t) {
            return t >= T_NULL;
        }

        static boolean isArray(int t) {
            return t == T_INTS || t > T_CLASS && (t & 1) == 1;
        }

        static int element(int arrayType) {
            return arrayType == T_INTS ? T_INT : arrayType - 1;
        }

        static int classOf(int type) {
            return type - T_CLASS >> 1;
        }

        boolean isBelow(int s, int t) {
            if (s == t || t == T_UNSET) {
                return true;
            }
            if (s < T_NULL || t <= T_NULL) {
                return false;
            }
            if (s == T_NULL || t == T_OBJECT) {
                return true;
            }
            if (s == T_INTS || t == T_INTS || (s & 1) != (t & 1)) {
                return false;
            }
            return isAbove(classOf(t), classOf(s));
        }

        int join(int s, int t) {
            if (s == t) {
                return s;
            }
            if (s < T_NULL || t < T_NULL) {
                return T_UNSET;
            }
            if (s == T_NULL) {
                return t;
            }
            if (t == T_NULL) {
                return s;
            }
            if (s == T_INTS || t == T_INTS || (s & 1) != (t & 1)) {
                return T_OBJECT;
            }
            int both = above[classOf(s)] & above[classOf(t)];
            return T_CLASS + 2 * (31 - Integer.numberOfLeadingZeros(both)) + (s & 1);
        }
    }

    /** The statics and methods. */
    private static final class Bodies {
        int count;
        int main = -1;
        private final int[] owner = new int[MAX_BODIES];
        private final int[] name = new int[MAX_BODIES];
        final boolean[] method = new boolean[MAX_BODIES];
        // What is taken from the stack, a method's object too.
        final int[] arity = new int[MAX_BODIES];
        private final int[] parameters = new int[MAX_BODIES * MAX_LOCALS];
        final int[] result = new int[MAX_BODIES];
        final int[] locals = new int[MAX_BODIES];
        final int[] openToken = new int[MAX_BODIES];
        final int[] start = new int[MAX_BODIES];
        final int[] end = new int[MAX_BODIES];
        final int[] catchStart = new int[MAX_BODIES];
        final int[] catchEnd = new int[MAX_BODIES];
        private final int[] runs = new int[MAX_CLASSES * MAX_BODIES];

        void begin(int ofClass, int ofName, boolean isMethod) {
            owner[count] = ofClass;
            name[count] = ofName;
            method[count] = isMethod;
            arity[count] = 0;
            if (isMethod) {
                addParameter(T_CLASS + 2 * ofClass);
            }
        }

        void addParameter(int type) {
            if (arity[count] < MAX_LOCALS) {
                parameters[count * MAX_LOCALS + arity[count]] = type;
            }
            arity[count]++;
        }

        void finish(int type, int localCount, int open) {
            result[count] = type;
            locals[count] = localCount;
            openToken[count] = open;
        }

        int parameter(int b, int k) {
            return k >= 0 && k < MAX_LOCALS ? parameters[b * MAX_LOCALS + k] : T_MISSING;
        }

        /** Whether the body that is being added may stand below the one of its name above it. */
        boolean mayReplace(int old) {
            if (owner[old] == owner[count] || !method[old] || !method[count]) {
                return false;
            }
            if (arity[old] != arity[count] || result[old] != result[count]) {
                return false;
            }
            for (int k = 1; k < arity[old]; k++) {
                if (parameter(old, k) != parameter(count, k)) {
                    return false;
                }
            }
            return true;
        }

        /** The body of a name in a class or the nearest above it: later ones are nearer. */
        int nearest(Classes classes, int c, int wanted) {
            int found = -1;
            for (int b = 0; b < count; b++) {
                if (name[b] == wanted && classes.isAbove(owner[b], c)) {
                    found = b;
                }
            }
            return found;
        }

        /** Which body runs if body b is sent to an object of class c: that of the nearest class. */
        void fillRuns(Classes classes) {
            Arrays.fill(runs, -1);
            int b = 0;
            for (int c = KNOWN_CLASSES; c < classes.count; c++) {
                System.arraycopy(runs, classes.upOf(c) * MAX_BODIES, runs, c * MAX_BODIES, MAX_BODIES);
                while (b < count && owner[b] == c) {
                    replaceRuns(classes, c, b);
                    b++;
                }
            }
        }

        private void replaceRuns(Classes classes, int c, int b) {
            for (int old = 0; old <= b; old++) {
                if (name[old] == name[b] && classes.isAbove(owner[old], c)) {
                    runs[c * MAX_BODIES + old] = b;
                }
            }
        }

        int running(int c, int b) {
            return c >= 0 && c < MAX_CLASSES ? runs[c * MAX_BODIES + b] : -1;
        }

        int mainOf(int c) {
            for (int b = 0; b < count; b++) {
                if (owner[b] == c && name[b] == W_MAIN) {
                    return !method[b] && arity[b] == 0 && result[b] == T_NONE ? b : -1;
                }
            }
            return -1;
        }
    }

    /** What a text says, its names resolved. */
    private static final class Program {
        final Classes classes = new Classes();
        final Bodies bodies = new Bodies();
        final Ranges ranges = new Ranges();
        int count;
        final int[] op = new int[MAX_CODE];
        // The operand: a number, local, instruction, class, type, field or body.
        final int[] first = new int[MAX_CODE];
        // Of inc its number, of new and array the site, of references the class that they name.
        final int[] second = new int[MAX_CODE];
        final int[] token = new int[MAX_CODE];
        final int[] bodyOf = new int[MAX_CODE];
        final int[] height = new int[MAX_CODE];
        int siteCount;
        final int[] siteType = new int[ALL_SITES];
        int catchCount;
        final int[] catchFrom = new int[MAX_CATCHES];
        final int[] catchTo = new int[MAX_CATCHES];
        final int[] catchAt = new int[MAX_CATCHES];
        final int[] catchClass = new int[MAX_CATCHES];

        void clear() {
            classes.clear();
            bodies.count = 0;
            ranges.clear();
            count = 0;
            siteCount = 0;
            catchCount = 0;
            for (int e = 0; e < ALL_SITES - MAX_SITES; e++) {
                siteType[MAX_SITES + e] = T_CLASS + 2 * (FIRST_ERROR_CLASS + e);
            }
        }

        void add(int what, int one, int two, int at, int b) {
            op[count] = what;
            first[count] = one;
            second[count] = two;
            token[count] = at;
            bodyOf[count] = b;
            count++;
            if (what == PUSH) {
                ranges.includeAround(one);
            }
            if (what == INC) {
                ranges.includeAround(two);
            }
        }

        int addSite(int type) {
            siteType[siteCount] = type;
            siteCount++;
            return siteCount - 1;
        }

        void addCatch(int begin, int end, int handler, int c) {
            catchFrom[catchCount] = begin;
            catchTo[catchCount] = end;
            catchAt[catchCount] = handler;
            catchClass[catchCount] = c;
            catchCount++;
        }

        /** Whether the instructions from there on end by one that nothing follows. */
        boolean closes(int start) {
            if (count <= start) {
                return false;
            }
            int last = op[count - 1];
            return last == GOTO || endsBody(last);
        }

        static boolean endsBody(int what) {
            return what == THROW || what == GIVE || what == BACK;
        }

        boolean covers(int c, int i) {
            return catchFrom[c] <= i && i < catchTo[c];
        }

        int takes(int i) {
            int what = op[i];
            return what == CALL || what == SEND ? bodies.arity[first[i]] : TAKES[what];
        }

        int leaves(int i) {
            int what = op[i];
            if (what == CALL || what == SEND) {
                return bodies.result[first[i]] == T_NONE ? 0 : 1;
            }
            return LEAVES[what];
        }

        /** The instruction that a label names; -1 if this one has none. */
        int target(int i) {
            return OPERANDS[op[i]] == OPERAND_L ? first[i] : -1;
        }

        boolean fallsThrough(int i) {
            return op[i] != GOTO && !endsBody(op[i]);
        }

        long sitesBelow(int type) {
            long below = 0L;
            for (int s = 0; s < ALL_SITES; s++) {
                if ((s < siteCount || s >= MAX_SITES) && classes.isBelow(siteType[s], type)) {
                    below |= 1L << s;
                }
            }
            return below;
        }
    }

    /** Looks at the heights and types of each body. */
    private static final class Types {
        private Program program;
        private Classes classes;
        // Bit h: height h comes to the instruction.
        private final int[] heights = new int[MAX_CODE];
        private final int[] held = new int[MAX_CODE * SLOTS];
        private final boolean[] come = new boolean[MAX_CODE];
        private final boolean[] waiting = new boolean[MAX_CODE];
        private final int[] now = new int[SLOTS];
        private boolean changed;

        Types(Program program) {
            this.program = program;
            this.classes = program.classes;
        }

        /** The first instruction that is wrong; -1 if there is none. */
        int firstWrong(Program looked) {
            program = looked;
            classes = looked.classes;
            for (int b = 0; b < program.bodies.count; b++) {
                int wrong = wrongHeight(b);
                if (wrong < 0) {
                    wrong = wrongType(b);
                }
                if (wrong >= 0) {
                    return wrong;
                }
            }
            return -1;
        }

        private int wrongHeight(int b) {
            int start = program.bodies.start[b];
            int end = program.bodies.end[b];
            for (int i = start; i < end; i++) {
                heights[i] = 0;
            }
            heights[start] = 1;
            changed = true;
            for (long round = 0; round < MANY_ROUNDS && changed; round++) {
                changed = false;
                for (int i = start; i < end; i++) {
                    spreadHeights(i);
                }
            }
            for (int i = start; i < end; i++) {
                int mask = heights[i];
                if (Integer.bitCount(mask) > 1 || mask != fineHeights(i)) {
                    return i;
                }
                program.height[i] = mask == 0 ? 0 : Integer.numberOfTrailingZeros(mask);
            }
            return -1;
        }

        /** Those heights that come to an instruction from which it can take, and leave no more than can be. */
        private int fineHeights(int i) {
            int net = program.leaves(i) - program.takes(i);
            int fine = heights[i] & ALL_HEIGHTS << program.takes(i);
            return net > 0 ? fine & ALL_HEIGHTS >>> net : fine;
        }

        private void spreadHeights(int i) {
            int fine = fineHeights(i);
            if (fine == 0) {
                return;
            }
            int net = program.leaves(i) - program.takes(i);
            int left = net >= 0 ? fine << net : fine >>> -net;
            if (program.fallsThrough(i)) {
                addHeights(i + 1, left);
            }
            addHeights(program.target(i), left);
            int b = program.bodyOf[i];
            for (int c = program.bodies.catchStart[b]; c < program.bodies.catchEnd[b]; c++) {
                if (program.covers(c, i)) {
                    addHeights(program.catchAt[c], 2);
                }
            }
        }

        private void addHeights(int i, int mask) {
            if (i >= 0 && i < program.count && (heights[i] | mask) != heights[i]) {
                heights[i] |= mask;
                changed = true;
            }
        }

        private int wrongType(int b) {
            Bodies bodies = program.bodies;
            int start = bodies.start[b];
            int end = bodies.end[b];
            for (int i = start; i < end; i++) {
                come[i] = false;
                waiting[i] = false;
            }
            Arrays.fill(now, T_UNSET);
            for (int k = 0; k < bodies.arity[b]; k++) {
                now[k] = bodies.parameter(b, k);
            }
            arrive(start, bodies.locals[b], 0);
            changed = true;
            for (long round = 0; round < MANY_ROUNDS && changed; round++) {
                changed = false;
                for (int i = start; i < end; i++) {
                    if (waiting[i]) {
                        waiting[i] = false;
                        spreadTypes(i);
                    }
                }
            }
            for (int i = start; i < end; i++) {
                if (come[i] && !holds(i)) {
                    return i;
                }
            }
            return -1;
        }

        private void arrive(int i, int locals, int height) {
            if (i < 0 || i >= program.count) {
                return;
            }
            boolean news = !come[i];
            for (int s = 0; s < STACK + height; s++) {
                if (s >= locals && s < STACK) {
                    continue;
                }
                int at = i * SLOTS + s;
                int joined = come[i] ? classes.join(held[at], now[s]) : now[s];
                news = news || joined != held[at];
                held[at] = joined;
            }
            if (news) {
                come[i] = true;
                waiting[i] = true;
                changed = true;
            }
        }

        private void spreadTypes(int i) {
            int b = program.bodyOf[i];
            int locals = program.bodies.locals[b];
            System.arraycopy(held, i * SLOTS, now, 0, SLOTS);
            int height = program.height[i] - program.takes(i) + program.leaves(i);
            if (perform(i)) {
                if (program.fallsThrough(i)) {
                    arrive(i + 1, locals, height);
                }
                arrive(program.target(i), locals, height);
            }
            for (int c = program.bodies.catchStart[b]; c < program.bodies.catchEnd[b]; c++) {
                if (program.covers(c, i)) {
                    System.arraycopy(held, i * SLOTS, now, 0, SLOTS);
                    now[STACK] = T_CLASS + 2 * program.catchClass[c];
                    arrive(program.catchAt[c], locals, 1);
                }
            }
        }

        /** Does to the types what the instruction does; false if it goes on nowhere. */
        private boolean perform(int i) {
            int above = STACK + program.height[i];
            int low = above - program.takes(i);
            switch (program.op[i]) {
                case STORE:
                    now[program.first[i]] = now[low];
                    return true;
                case DUP:
                    now[above] = now[low];
                    return true;
                case SWAP:
                    int type = now[low];
                    now[low] = now[low + 1];
                    now[low + 1] = type;
                    return true;
                default:
                    if (program.leaves(i) == 0) {
                        return true;
                    }
                    now[low] = leftType(i, low);
                    return now[low] != T_STOP;
            }
        }

        private int leftType(int i, int low) {
            int a = program.first[i];
            switch (program.op[i]) {
                case NULL: return T_NULL;
                case LOAD: return now[a];
                case NEW:
                case ARRAY: return program.siteType[program.second[i]];
                case ALOAD: return now[low] == T_NULL ? T_STOP : Classes.isArray(now[low]) ? Classes.element(now[low]) : T_UNSET;
                case GET: return classes.fieldType[a];
                case CAST: return a;
                case CALL:
                case SEND: return program.bodies.result[a];
                default: return T_INT;
            }
        }

        private boolean holds(int i) {
            int op = program.op[i];
            int row = i * SLOTS;
            if (op == LOAD) {
                return held[row + program.first[i]] != T_UNSET;
            }
            if (op == INC) {
                return held[row + program.first[i]] == T_INT;
            }
            if (op == BACK) {
                return program.bodies.result[program.bodyOf[i]] == T_NONE;
            }
            int taken = program.takes(i);
            int low = row + STACK + program.height[i] - taken;
            for (int k = 0; k < taken; k++) {
                boolean fine = op == CALL || op == SEND ? suitsParameter(i, k, held[low + k])
                    : suits(i, WANTS[op] >> 4 * (taken - 1 - k) & 15, held[low], held[low + k]);
                if (!fine) {
                    return false;
                }
            }
            return true;
        }

        private boolean suitsParameter(int i, int k, int type) {
            boolean object = k == 0 && program.op[i] == SEND;
            int told = object ? T_CLASS + 2 * program.second[i] : program.bodies.parameter(program.first[i], k);
            return classes.isBelow(type, told);
        }

        private boolean suits(int i, int want, int lowest, int type) {
            switch (want) {
                case WANT_INT: return type == T_INT;
                case WANT_REF: return Classes.isRef(type);
                case WANT_ARRAY: return type == T_NULL || Classes.isArray(type);
                case WANT_ANYTHING: return true;
                case WANT_OWNER: return classes.isBelow(type, T_CLASS + 2 * program.second[i]);
                case WANT_FIELD: return classes.isBelow(type, classes.fieldType[program.first[i]]);
                case WANT_ELEMENT:
                    return lowest == T_NULL ? type != T_UNSET : classes.isBelow(type, Classes.element(lowest));
                case WANT_ERROR: return classes.isBelow(type, T_ERROR);
                default:
                    int told = program.bodies.result[program.bodyOf[i]];
                    return told != T_NONE && classes.isBelow(type, told);
            }
        }
    }

    /** The thresholds of a program, and what can be said of numbers by ranges that end at them. */
    private static final class Ranges {
        static final long ALL = (long) Integer.MIN_VALUE << 32 | Integer.MAX_VALUE;
        static final long NOTHING = (long) Integer.MAX_VALUE << 32 | 0x80000000L;
        int count;
        private final int[] ends = new int[MAX_ENDS];

        static long pack(int l, int h) {
            return (long) l << 32 | h & 0xffffffffL;
        }

        static int lowest(long range) {
            return (int) (range >> 32);
        }

        static int highest(long range) {
            return (int) range;
        }

        static boolean isNothing(long range) {
            return (int) (range >> 32) > (int) range;
        }

        static boolean isSingle(long range) {
            return (int) (range >> 32) == (int) range;
        }

        static long join(long p, long q) {
            int pl = (int) (p >> 32);
            int ql = (int) (q >> 32);
            int ph = (int) p;
            int qh = (int) q;
            return (long) (pl < ql ? pl : ql) << 32 | (ph > qh ? ph : qh) & 0xffffffffL;
        }

        static long common(long p, long q) {
            int l = Math.max(lowest(p), lowest(q));
            int h = Math.min(highest(p), highest(q));
            return l > h ? NOTHING : pack(l, h);
        }

        void clear() {
            count = 0;
            include(Integer.MIN_VALUE);
            include(-Integer.MAX_VALUE);
            includeAround(0);
            include(Integer.MAX_VALUE - 1);
            include(Integer.MAX_VALUE);
        }

        void includeAround(int n) {
            if (n != Integer.MIN_VALUE) {
                include(n - 1);
            }
            include(n);
            if (n != Integer.MAX_VALUE) {
                include(n + 1);
            }
        }

        private void include(int n) {
            int at = placeOf(n);
            if (at < count && ends[at] == n || count >= MAX_ENDS) {
                return;
            }
            System.arraycopy(ends, at, ends, at + 1, count - at);
            ends[at] = n;
            count++;
        }

        /** How many thresholds are below n. */
        private int placeOf(int n) {
            int low = 0;
            int high = count;
            while (low < high) {
                int middle = low + high >>> 1;
                if (ends[middle] < n) {
                    low = middle + 1;
                } else {
                    high = middle;
                }
            }
            return low;
        }

        /** The least range that has l to h; all ints if one of them is no int. */
        long around(long l, long h) {
            if (l < Integer.MIN_VALUE || h > Integer.MAX_VALUE || l > Integer.MAX_VALUE || h < Integer.MIN_VALUE) {
                return ALL;
            }
            int from = placeOf((int) l);
            int to = l == h ? from : placeOf((int) h);
            int low = from < count && ends[from] == l ? (int) l : from > 0 ? ends[from - 1] : Integer.MIN_VALUE;
            int high = to < count ? ends[to] : Integer.MAX_VALUE;
            return pack(low, high);
        }

        /** The least range that has what of the range is from l to h. */
        long cut(long range, long l, long h) {
            long low = Math.max(lowest(range), l);
            long high = Math.min(highest(range), h);
            return low > high ? NOTHING : around(low, high);
        }

        /** The range without the one number of the other, as far as that is an end of it. */
        long without(long range, long other) {
            if (!isSingle(other)) {
                return range;
            }
            long c = lowest(other);
            long l = lowest(range);
            long h = highest(range);
            l = l == c ? l + 1L : l;
            h = h == c ? h - 1L : h;
            return l > h ? NOTHING : around(l, h);
        }

        /** What a calculation can give; NOTHING if it can't give anything. */
        long calculate(int op, long a, long b) {
            switch (op) {
                case ADD: return around((long) lowest(a) + lowest(b), (long) highest(a) + highest(b));
                case SUB: return around((long) lowest(a) - highest(b), (long) highest(a) - lowest(b));
                case MUL: return product(a, lowest(b), highest(b));
                case DIV: return quotient(a, b);
                case REM: return remainder(a, b);
                case AND: return conjunction(a, b);
                case OR:
                case XOR: return disjunction(a, b);
                case SHL: return isSingle(b) ? product(a, 1L << (lowest(b) & 31), 1L << (lowest(b) & 31)) : ALL;
                default: return shifted(a, b);
            }
        }

        long plus(long a, int n) {
            return around((long) lowest(a) + n, (long) highest(a) + n);
        }

        long negative(long a) {
            return around(-(long) highest(a), -(long) lowest(a));
        }

        private long product(long a, long l, long h) {
            long p = lowest(a) * l;
            long q = lowest(a) * h;
            long r = highest(a) * l;
            long s = highest(a) * h;
            return around(Math.min(Math.min(p, q), Math.min(r, s)), Math.max(Math.max(p, q), Math.max(r, s)));
        }

        private long quotient(long a, long b) {
            long least = Long.MAX_VALUE;
            long most = Long.MIN_VALUE;
            for (int k = 0; k < 4; k++) {
                long d = k == 0 ? -1L : k == 1 ? 1L : k == 2 ? lowest(b) : highest(b);
                if (d != 0L && d >= lowest(b) && d <= highest(b)) {
                    long p = lowest(a) / d;
                    long q = highest(a) / d;
                    least = Math.min(least, Math.min(p, q));
                    most = Math.max(most, Math.max(p, q));
                }
            }
            return least > most ? NOTHING : around(least, most);
        }

        private long remainder(long a, long b) {
            long l = lowest(a);
            long h = highest(a);
            long m = Math.max(Math.abs((long) lowest(b)), Math.abs((long) highest(b))) - 1L;
            if (m < 0L) {
                return NOTHING;
            }
            if (l >= 0L) {
                return around(0L, Math.min(h, m));
            }
            return around(Math.max(l, -m), h <= 0L ? 0L : Math.min(h, m));
        }

        private long conjunction(long a, long b) {
            boolean one = lowest(a) >= 0;
            boolean two = lowest(b) >= 0;
            if (one && two) {
                return around(0L, Math.min(highest(a), highest(b)));
            }
            return one ? around(0L, highest(a)) : two ? around(0L, highest(b)) : ALL;
        }

        private long disjunction(long a, long b) {
            if (lowest(a) < 0 || lowest(b) < 0) {
                return ALL;
            }
            int most = Math.max(highest(a), highest(b));
            return around(0L, (1L << 32 - Integer.numberOfLeadingZeros(most)) - 1L);
        }

        private long shifted(long a, long b) {
            if (isSingle(b)) {
                return around(lowest(a) >> (lowest(b) & 31), highest(a) >> (lowest(b) & 31));
            }
            return around(Math.min(lowest(a), 0), Math.max(highest(a), -1));
        }
    }

    /** The states of all instructions, and the one that is worked on. */
    private static final class States {
        final long[] values = new long[MAX_CODE * SLOTS];
        final long[] facts = new long[MAX_CODE * SLOTS];
        final boolean[] reached = new boolean[MAX_CODE];
        // Bit i & 63 of word i >> 6: instruction i is to be looked at.
        private final long[] waiting = new long[WAIT_WORDS];
        final long[] value = new long[SLOTS];
        final long[] fact = new long[SLOTS];
        private int locals;
        int height;

        static int copyOf(long facts) {
            return (int) (facts >>> COPY_SHIFT & 15L) - 1;
        }

        void clear() {
            for (int i = 0; i < MAX_CODE; i++) {
                reached[i] = false;
            }
            Arrays.fill(waiting, 0L);
        }

        void wake(int i) {
            waiting[i >> 6] |= 1L << (i & 63);
        }

        /** The first instruction from there on that waits, and then waits no more; -1 if none does. */
        int takeWaiting(int from) {
            long bits = -1L << (from & 63);
            for (int w = from >> 6; w < WAIT_WORDS; w++) {
                bits &= waiting[w];
                if (bits != 0L) {
                    waiting[w] ^= Long.lowestOneBit(bits);
                    return (w << 6) + Long.numberOfTrailingZeros(bits);
                }
                bits = -1L;
            }
            return -1;
        }

        /** Works on the state of instruction i from now on. */
        void bring(int i, int localCount, int stackCount) {
            locals = localCount;
            height = stackCount;
            int row = i * SLOTS;
            System.arraycopy(values, row, value, 0, locals);
            System.arraycopy(facts, row, fact, 0, locals);
            System.arraycopy(values, row + STACK, value, STACK, height);
            System.arraycopy(facts, row + STACK, fact, STACK, height);
        }

        void push(long v, long f) {
            if (height < MAX_STACK) {
                value[STACK + height] = v;
                fact[STACK + height] = f;
                height++;
            }
        }

        /** The slot that stands there from the top on, 0 the highest. */
        int fromTop(int depth) {
            return STACK + height - 1 - depth;
        }

        void drop(int n) {
            height -= n;
        }

        void swap() {
            int s = STACK + height - 1;
            long v = value[s];
            long f = fact[s];
            value[s] = value[s - 1];
            fact[s] = fact[s - 1];
            value[s - 1] = v;
            fact[s - 1] = f;
        }

        void change(int k) {
            long others = ~(ONE_IN_ALL << k);
            for (int s = 0; s < STACK + height; s++) {
                if (s < locals || s >= STACK) {
                    fact[s] &= copyOf(fact[s]) == k ? others & ~COPY_BITS : others;
                }
            }
        }

        /** Local k becomes the highest slot, which is taken. */
        void storeTop(int k) {
            change(k);
            int s = STACK + height - 1;
            value[k] = value[s];
            fact[k] = fact[s] & ~COPY_BITS;
            height--;
        }

        /** If the slot is a copy of a local, that keeps these sites alone; false if it keeps nothing. */
        boolean keepSites(int s, long kept) {
            int k = copyOf(fact[s]);
            if (k < 0) {
                return true;
            }
            value[k] &= kept;
            return value[k] != 0L;
        }

        /** If the slot is a copy of a local, that gets this range besides its own, and these sets; false if nothing is left. */
        boolean narrow(int s, long range, long sets) {
            int k = copyOf(fact[s]);
            if (k < 0) {
                return true;
            }
            value[k] = Ranges.common(value[k], range);
            fact[k] |= sets;
            return !Ranges.isNothing(value[k]);
        }

        /** Joins what is worked on into the state of instruction i. */
        void arrive(int i) {
            boolean fresh = !reached[i];
            boolean news = fresh;
            int row = i * SLOTS;
            for (int s = 0; s < STACK + height; s++) {
                // Most slots bring what is there already.
                boolean other = fresh || value[s] != values[row + s] || fact[s] != facts[row + s];
                if (other && (s < locals || s >= STACK)) {
                    news |= joinSlot(row + s, value[s], fact[s], fresh);
                }
            }
            if (news) {
                reached[i] = true;
                wake(i);
            }
        }

        /** Joins the arguments from slot low on into the beginning of a body, the first being these sites alone if any. */
        void enter(int i, int localCount, int low, int arity, long object) {
            boolean fresh = !reached[i];
            boolean news = fresh;
            int row = i * SLOTS;
            for (int k = 0; k < localCount; k++) {
                boolean given = k < arity && low + k < SLOTS;
                long v = !given ? 0L : k == 0 && object != 0L ? object : value[low + k];
                long f = given ? fact[low + k] & KIND_BITS : 0L;
                news |= joinSlot(row + k, v, f, fresh);
            }
            if (news) {
                reached[i] = true;
                wake(i);
            }
        }

        private boolean joinSlot(int at, long v, long f, boolean fresh) {
            long newFact = f;
            long newValue = v;
            if (!fresh) {
                long old = facts[at];
                long copy = ((f ^ old) & COPY_BITS) == 0L ? COPY_BITS : 0L;
                newFact = ((f ^ old) & KIND_BITS) != 0L ? 0L : f & old & (KIND_BITS | ALL_SETS | copy);
                newValue = (newFact & INT_KIND) != 0L ? Ranges.join(v, values[at])
                    : (newFact & REF_KIND) != 0L ? v | values[at] : 0L;
                if (newFact == old && newValue == values[at]) {
                    return false;
                }
            }
            values[at] = newValue;
            facts[at] = newFact;
            return true;
        }
    }

    /** What is known beside the states: of the objects of each site, and of each body. */
    private static final class Store {
        final long[] fields = new long[MAX_SITES * MAX_FIELDS];
        final long[] elements = new long[MAX_SITES];
        final long[] lengths = new long[MAX_SITES];
        final long[] results = new long[MAX_BODIES];
        final boolean[] ended = new boolean[MAX_BODIES];
        final long[] thrownBy = new long[MAX_BODIES];
        // Bit k: something is known of field k, of site k as an array, of body k that was not.
        long changedFields;
        long changedArrays;
        long changedBodies;

        /** What is there before anything is known: no number, or no site and no NULL. */
        static long nothing(boolean number) {
            return number ? Ranges.NOTHING : 0L;
        }

        static long join(long p, long q, boolean number) {
            return number ? Ranges.join(p, q) : p | q;
        }

        void clear(Program program) {
            for (int s = 0; s < MAX_SITES; s++) {
                lengths[s] = Ranges.NOTHING;
                elements[s] = nothing(program.siteType[s] == T_INTS);
                for (int f = 0; f < program.classes.fieldCount; f++) {
                    fields[s * MAX_FIELDS + f] = nothing(program.classes.fieldType[f] == T_INT);
                }
            }
            for (int b = 0; b < MAX_BODIES; b++) {
                results[b] = nothing(program.bodies.result[b] == T_INT);
                ended[b] = false;
                thrownBy[b] = 0L;
            }
        }

        void addField(int s, int f, long v, boolean number) {
            int at = s * MAX_FIELDS + f;
            long joined = join(fields[at], v, number);
            if (joined != fields[at]) {
                fields[at] = joined;
                changedFields |= 1L << f;
            }
        }

        void addElement(int s, long v, boolean number) {
            long joined = join(elements[s], v, number);
            if (joined != elements[s]) {
                elements[s] = joined;
                changedArrays |= 1L << s;
            }
        }

        void addLengths(int s, long range) {
            long joined = Ranges.join(lengths[s], range);
            if (joined != lengths[s]) {
                lengths[s] = joined;
                changedArrays |= 1L << s;
            }
        }

        void addEnd(int b, long v, boolean number) {
            long joined = join(results[b], v, number);
            if (joined != results[b] || !ended[b]) {
                results[b] = joined;
                ended[b] = true;
                changedBodies |= 1L << b;
            }
        }

        void addThrown(int b, long thrown) {
            if ((thrownBy[b] | thrown) != thrownBy[b]) {
                thrownBy[b] |= thrown;
                changedBodies |= 1L << b;
            }
        }
    }

    /** The least solution: it is looked at each instruction again whenever something that it uses has changed. */
    private static final class Proof {
        private Program program;
        private Ranges ranges;
        final States states = new States();
        final Store store = new Store();
        final int[] found = new int[MAX_CODE];
        final long[] escaping = new long[MAX_CODE];
        // Of cast and is the sites that are of the type, of call and send the bodies; of a catch the sites that it takes, of
        // an array site those that it can hold.
        private final long[] suiting = new long[MAX_CODE];
        private final long[] caughtBy = new long[MAX_CATCHES];
        private final long[] heldBy = new long[MAX_SITES];
        private int raised;
        private long loose;
        private boolean moved;
        private long result;
        private boolean comesBack;

        Proof(Program program) {
            this.program = program;
            this.ranges = program.ranges;
        }

        void prove(Program proved) {
            program = proved;
            ranges = proved.ranges;
            program.classes.placeFields();
            states.clear();
            store.clear(program);
            findSuiting();
            int main = program.bodies.main;
            states.enter(program.bodies.start[main], program.bodies.locals[main], STACK, 0, 0L);
            int i = states.takeWaiting(0);
            for (long looks = 0; looks < MANY_ROUNDS && i >= 0; looks++) {
                look(i);
                i = states.takeWaiting(i + 1);
                if (i < 0) {
                    wakeUsers();
                    i = states.takeWaiting(0);
                }
            }
        }

        private void findSuiting() {
            for (int i = 0; i < program.count; i++) {
                found[i] = 0;
                escaping[i] = 0L;
                if (OPERANDS[program.op[i]] == OPERAND_T) {
                    suiting[i] = program.sitesBelow(program.first[i]);
                } else if (program.op[i] == CALL || program.op[i] == SEND) {
                    suiting[i] = bodiesMeant(i);
                }
            }
            for (int c = 0; c < program.catchCount; c++) {
                caughtBy[c] = program.sitesBelow(T_CLASS + 2 * program.catchClass[c]);
            }
            for (int s = 0; s < program.siteCount; s++) {
                if (Classes.isArray(program.siteType[s])) {
                    heldBy[s] = program.sitesBelow(Classes.element(program.siteType[s]));
                }
            }
        }

        /** The bodies that a call or send may run. */
        private long bodiesMeant(int i) {
            int b = program.first[i];
            long meant = program.op[i] == CALL ? 1L << b : 0L;
            for (int c = 0; c < program.classes.count && program.op[i] == SEND; c++) {
                int runs = program.bodies.running(c, b);
                meant |= runs < 0 ? 0L : 1L << runs;
            }
            return meant;
        }

        /** What uses something that has changed beside the states is looked at again. */
        private void wakeUsers() {
            if ((store.changedFields | store.changedArrays | store.changedBodies) == 0L) {
                return;
            }
            for (int i = 0; i < program.count; i++) {
                if (states.reached[i] && usesChanged(i)) {
                    states.wake(i);
                }
            }
            store.changedFields = 0L;
            store.changedArrays = 0L;
            store.changedBodies = 0L;
        }

        private boolean usesChanged(int i) {
            switch (program.op[i]) {
                case GET:
                    return (store.changedFields >>> program.first[i] & 1L) != 0L;
                case LENGTH:
                case ALOAD:
                case ASTORE:
                    int array = STACK + program.height[i] - program.takes(i);
                    return (store.changedArrays & states.values[i * SLOTS + array]) != 0L;
                case CALL:
                case SEND:
                    return (store.changedBodies & suiting[i]) != 0L;
                default:
                    return false;
            }
        }

        private void bring(int i) {
            states.bring(i, program.bodies.locals[program.bodyOf[i]], program.height[i]);
        }

        private void look(int i) {
            int op = program.op[i];
            boolean on = false;
            bring(i);
            raised = REACHED;
            loose = 0L;
            moved = false;
            if (op >= EQ && op <= GE) {
                lookAtWay(i, program.first[i], op);
                lookAtWay(i, i + 1, contrary(op));
            } else if (op == ISNULL || op == NOTNULL) {
                lookAtNullWay(i, program.first[i], op == ISNULL);
                lookAtNullWay(i, i + 1, op == NOTNULL);
            } else if (op == SAME || op == OTHER) {
                lookAtSameWay(i, program.first[i], op == SAME);
                lookAtSameWay(i, i + 1, op == OTHER);
            } else if (op == CALL || op == SEND) {
                on = calls(i, op);
            } else if (op >= ADD && op <= NEG) {
                on = calculates(op);
            } else if (op == ALOAD || op == ASTORE) {
                on = usesElement(op);
            } else {
                on = goesOn(i, op);
            }
            if (on) {
                goOn(op == GOTO ? program.first[i] : i + 1);
            }
            found[i] = moved ? raised : raised | GOES_NOWHERE;
            throwLoose(i);
        }

        /** Works on the state as the instruction does; whether it goes on then. */
        private boolean goesOn(int i, int op) {
            switch (op) {
                case GOTO:
                    return true;
                case NEW:
                    return makesObject(i);
                case ARRAY:
                    return makesArray(i);
                case LENGTH:
                    return tellsLength();
                case GET:
                case PUT:
                    return usesField(i, op);
                case CAST:
                    return casts(i);
                case IS:
                    return tellsType(i);
                case THROW:
                    return throwsSites();
                case GIVE:
                case BACK:
                    return endsBody(i, op);
                case READ:
                    states.push(Ranges.ALL, INT_KIND);
                    return true;
                default:
                    return moves(i, op);
            }
        }

        private void goOn(int i) {
            moved = true;
            if (i >= 0 && i < program.count) {
                states.arrive(i);
            }
        }

        private void raise(int error) {
            raised |= 1 << error;
            loose |= 1L << MAX_SITES + error;
        }

        private void throwLoose(int i) {
            int b = program.bodyOf[i];
            long left = loose;
            for (int c = program.bodies.catchStart[b]; c < program.bodies.catchEnd[b] && left != 0L; c++) {
                long caught = program.covers(c, i) ? left & caughtBy[c] : 0L;
                if (caught != 0L) {
                    bring(i);
                    states.height = 0;
                    states.push(caught, REF_KIND);
                    states.arrive(program.catchAt[c]);
                    left &= ~caught;
                }
            }
            escaping[i] = left;
            store.addThrown(b, left);
        }

        private boolean moves(int i, int op) {
            int a = program.first[i];
            int top = states.fromTop(0);
            switch (op) {
                case PUSH:
                    states.push(Ranges.pack(a, a), INT_KIND);
                    break;
                case NULL:
                    states.push(NULL_BIT, REF_KIND);
                    break;
                case LOAD:
                    states.push(states.value[a], states.fact[a] | (long) (a + 1) << COPY_SHIFT);
                    break;
                case STORE:
                    states.storeTop(a);
                    break;
                case INC:
                    int n = program.second[i];
                    states.change(a);
                    states.value[a] = ranges.plus(states.value[a], n);
                    states.fact[a] = INT_KIND;
                    break;
                case DUP:
                    states.push(states.value[top], states.fact[top]);
                    break;
                case SWAP:
                    states.swap();
                    break;
                default:
                    states.drop(1);
                    break;
            }
            return true;
        }

        private boolean calculates(int op) {
            int b = states.fromTop(0);
            long given;
            if (op == NEG) {
                given = ranges.negative(states.value[b]);
                states.drop(1);
            } else {
                long right = states.value[b];
                boolean divides = op == DIV || op == REM;
                if (divides && Ranges.lowest(right) <= 0 && Ranges.highest(right) >= 0) {
                    raise(DIVIDE_ERROR);
                }
                given = ranges.calculate(op, states.value[b - 1], right);
                states.drop(2);
            }
            states.push(given, INT_KIND);
            return !Ranges.isNothing(given);
        }

        private static int contrary(int op) {
            switch (op) {
                case EQ: return NE;
                case NE: return EQ;
                case LT: return GE;
                case GE: return LT;
                case LE: return GT;
                default: return LE;
            }
        }

        private void lookAtNullWay(int i, int target, boolean isNull) {
            bring(i);
            int s = states.fromTop(0);
            long kept = isNull ? NULL_BIT : SITE_BITS;
            if ((states.value[s] & kept) != 0L && states.keepSites(s, kept)) {
                states.drop(1);
                goOn(target);
            }
        }

        private void lookAtSameWay(int i, int target, boolean same) {
            bring(i);
            int b = states.fromTop(0);
            int a = b - 1;
            long common = states.value[a] & states.value[b];
            if (!same || common != 0L && states.keepSites(a, common) && states.keepSites(b, common)) {
                states.drop(2);
                goOn(target);
            }
        }

        private void lookAtWay(int i, int target, int relation) {
            bring(i);
            int b = states.fromTop(0);
            int a = b - 1;
            boolean taken;
            switch (relation) {
                case EQ:
                    taken = makeEqual(a, b);
                    break;
                case NE:
                    taken = makeDifferent(a, b);
                    break;
                case LT:
                case LE:
                    taken = makeOrdered(a, b, relation == LT);
                    break;
                default:
                    taken = makeOrdered(b, a, relation == GT);
                    break;
            }
            if (taken && passOn(a) && passOn(b)) {
                states.drop(2);
                goOn(target);
            }
        }

        /** The local of which the slot is a copy learns what is known of the slot. */
        private boolean passOn(int s) {
            return states.narrow(s, states.value[s], states.fact[s] & INT_SETS);
        }

        private boolean makeEqual(int a, int b) {
            long common = Ranges.common(states.value[a], states.value[b]);
            long sets = (states.fact[a] | states.fact[b]) & INT_SETS;
            states.value[a] = common;
            states.value[b] = common;
            states.fact[a] |= sets;
            states.fact[b] |= sets;
            return !Ranges.isNothing(common);
        }

        private boolean makeDifferent(int a, int b) {
            long left = ranges.without(states.value[a], states.value[b]);
            long right = ranges.without(states.value[b], states.value[a]);
            states.value[a] = left;
            states.value[b] = right;
            return !Ranges.isNothing(left) && !Ranges.isNothing(right);
        }

        /** The way on which a is less than b, or at most b. */
        private boolean makeOrdered(int a, int b, boolean less) {
            long gap = less ? 1L : 0L;
            long left = ranges.cut(states.value[a], Integer.MIN_VALUE, Ranges.highest(states.value[b]) - gap);
            long right = ranges.cut(states.value[b], Ranges.lowest(states.value[a]) + gap, Integer.MAX_VALUE);
            states.value[a] = left;
            states.value[b] = right;
            long told = states.fact[b];
            states.fact[a] |= told & (LESS_SET | UNDER_SET);
            if (less) {
                int copy = States.copyOf(told);
                states.fact[a] |= (told & LENGTH_SET) >>> LENGTH_SHIFT - UNDER_SHIFT | (copy < 0 ? 0L : 1L << copy);
            }
            return !Ranges.isNothing(left) && !Ranges.isNothing(right);
        }

        private boolean makesObject(int i) {
            Classes classes = program.classes;
            int site = program.second[i];
            for (int f = 0; f < classes.fieldCount; f++) {
                if (classes.isAbove(classes.fieldOwner[f], program.first[i])) {
                    boolean number = classes.fieldType[f] == T_INT;
                    store.addField(site, f, number ? 0L : NULL_BIT, number);
                }
            }
            states.push(1L << site, REF_KIND);
            return true;
        }

        private boolean makesArray(int i) {
            int s = states.fromTop(0);
            long size = states.value[s];
            int copy = States.copyOf(states.fact[s]);
            int site = program.second[i];
            boolean number = program.first[i] == T_INT;
            if (Ranges.lowest(size) < 0) {
                raise(SIZE_ERROR);
            }
            if (Ranges.highest(size) < 0) {
                return false;
            }
            store.addLengths(site, Ranges.pack(Math.max(Ranges.lowest(size), 0), Ranges.highest(size)));
            store.addElement(site, number ? 0L : NULL_BIT, number);
            states.drop(1);
            states.push(1L << site, copy < 0 ? REF_KIND : REF_KIND | 1L << SIZED_SHIFT + copy);
            return true;
        }

        /** Whether there is a way on behind the use of what the slot means. */
        private boolean dereference(int s) {
            long v = states.value[s];
            if ((v & NULL_BIT) != 0L) {
                raise(NULL_ERROR);
            }
            return (v & SITE_BITS) != 0L && states.keepSites(s, SITE_BITS);
        }

        private long lengthsOf(long sites) {
            long all = Ranges.NOTHING;
            for (int s = 0; s < program.siteCount; s++) {
                if ((sites >>> s & 1L) != 0L) {
                    all = Ranges.join(all, store.lengths[s]);
                }
            }
            return all;
        }

        private boolean tellsLength() {
            int r = states.fromTop(0);
            int copy = States.copyOf(states.fact[r]);
            if (!dereference(r)) {
                return false;
            }
            long all = lengthsOf(states.value[r]);
            states.drop(1);
            states.push(all, copy < 0 ? INT_KIND : INT_KIND | 1L << LENGTH_SHIFT + copy);
            return !Ranges.isNothing(all);
        }

        private boolean usesElement(int op) {
            int r = states.fromTop(op == ALOAD ? 1 : 2);
            int x = r + 1;
            if (!dereference(r)) {
                return false;
            }
            long all = lengthsOf(states.value[r]);
            if (!staysInside(r, x, all)) {
                raise(INDEX_ERROR);
            }
            long inside = ranges.cut(states.value[x], 0L, Ranges.highest(all) - 1L);
            int copy = States.copyOf(states.fact[r]);
            long under = copy < 0 ? 0L : 1L << UNDER_SHIFT + copy;
            if (Ranges.isNothing(all) || Ranges.isNothing(inside) || !states.narrow(x, inside, under)) {
                return false;
            }
            return op == ALOAD ? takesElement(r) : putsElement(r);
        }

        private boolean staysInside(int r, int x, long all) {
            if (Ranges.lowest(states.value[x]) < 0) {
                return false;
            }
            long index = states.fact[x];
            int copy = States.copyOf(states.fact[r]);
            boolean under = copy >= 0 && (index >>> UNDER_SHIFT + copy & 1L) != 0L;
            boolean sized = (index & states.fact[r] >>> SIZED_SHIFT & ONE_SET) != 0L;
            return under || sized || Ranges.highest(states.value[x]) < Ranges.lowest(all);
        }

        private boolean takesElement(int r) {
            long sites = states.value[r];
            int any = Long.numberOfTrailingZeros(sites);
            boolean number = any < program.siteCount && program.siteType[any] == T_INTS;
            long held = Store.nothing(number);
            for (int s = 0; s < program.siteCount; s++) {
                if ((sites >>> s & 1L) != 0L) {
                    held = Store.join(held, store.elements[s], number);
                }
            }
            return leavesValue(2, held, number);
        }

        /** Takes n slots and leaves the value, if there is any yet. */
        private boolean leavesValue(int n, long v, boolean number) {
            states.drop(n);
            states.push(v, number ? INT_KIND : REF_KIND);
            return number ? !Ranges.isNothing(v) : v != 0L;
        }

        private boolean putsElement(int r) {
            long sites = states.value[r];
            long v = states.value[r + 2];
            boolean number = (states.fact[r + 2] & INT_KIND) != 0L;
            boolean some = number;
            for (int s = 0; s < program.siteCount; s++) {
                if ((sites >>> s & 1L) != 0L) {
                    long held = number ? v : v & (heldBy[s] | NULL_BIT);
                    if (held != v) {
                        raise(STORE_ERROR);
                    }
                    some = some || held != 0L;
                    store.addElement(s, held, number);
                }
            }
            states.drop(3);
            return some;
        }

        private boolean usesField(int i, int op) {
            int f = program.first[i];
            boolean number = program.classes.fieldType[f] == T_INT;
            int r = states.fromTop(op == GET ? 0 : 1);
            if (!dereference(r)) {
                return false;
            }
            long sites = states.value[r];
            long held = Store.nothing(number);
            for (int s = 0; s < program.siteCount; s++) {
                if ((sites >>> s & 1L) != 0L && op == GET) {
                    held = Store.join(held, store.fields[s * MAX_FIELDS + f], number);
                } else if ((sites >>> s & 1L) != 0L) {
                    store.addField(s, f, states.value[r + 1], number);
                }
            }
            if (op == GET) {
                return leavesValue(1, held, number);
            }
            states.drop(2);
            return true;
        }

        private boolean casts(int i) {
            int s = states.fromTop(0);
            long kept = states.value[s] & (suiting[i] | NULL_BIT);
            if (kept != states.value[s]) {
                raise(CAST_ERROR);
            }
            states.value[s] = kept;
            return kept != 0L && states.keepSites(s, kept);
        }

        private boolean tellsType(int i) {
            long v = states.value[states.fromTop(0)];
            boolean yes = (v & suiting[i]) != 0L;
            boolean no = (v & ~suiting[i]) != 0L;
            states.drop(1);
            states.push(Ranges.pack(no ? 0 : 1, yes ? 1 : 0), INT_KIND);
            return yes || no;
        }

        private boolean endsBody(int i, int op) {
            int b = program.bodyOf[i];
            boolean gives = op == GIVE;
            store.addEnd(b, gives ? states.value[states.fromTop(0)] : 0L, gives && program.bodies.result[b] == T_INT);
            return false;
        }

        private boolean throwsSites() {
            long v = states.value[states.fromTop(0)];
            if ((v & NULL_BIT) != 0L) {
                raise(NULL_ERROR);
            }
            if ((v & SITE_BITS) != 0L) {
                raised |= THROWS_SITES;
                loose |= v & SITE_BITS;
            }
            return false;
        }

        private boolean calls(int i, int op) {
            int body = program.first[i];
            int arity = program.bodies.arity[body];
            int low = STACK + states.height - arity;
            int type = program.bodies.result[body];
            result = Store.nothing(type == T_INT);
            comesBack = false;
            if (op == CALL) {
                enterBody(body, low, 0L, type == T_INT);
            } else if (dereference(low)) {
                long sites = states.value[low];
                for (int s = 0; s < program.siteCount; s++) {
                    if ((sites >>> s & 1L) != 0L) {
                        int meant = program.bodies.running(Classes.classOf(program.siteType[s]), body);
                        enterBody(meant, low, 1L << s, type == T_INT);
                    }
                }
            }
            states.drop(arity);
            if (type != T_NONE) {
                states.push(result, type == T_INT ? INT_KIND : REF_KIND);
            }
            return comesBack;
        }

        private void enterBody(int b, int low, long object, boolean number) {
            Bodies bodies = program.bodies;
            if (b < 0) {
                return;
            }
            states.enter(bodies.start[b], bodies.locals[b], low, bodies.arity[b], object);
            if (store.thrownBy[b] != 0L) {
                raised |= CALLS_THROWER;
                loose |= store.thrownBy[b];
            }
            if (store.ended[b]) {
                comesBack = true;
                result = Store.join(result, store.results[b], number);
            }
        }
    }

    /** Runs programs, and watches whether what was proved of them holds. */
    private static final class Machine {
        // A cell is what it holds in the lower half (an int; 0 for null, n + 1 for object n) and its kind in the upper.
        private static final long INT_CELL = 1L << 32;
        private static final long REF_CELL = 2L << 32;
        private static final long LOWER = 0xffffffffL;
        private final Proof proof;
        private Program program;
        private final long[] cells = new long[MAX_DEPTH * SLOTS];
        private final int[] at = new int[MAX_DEPTH];
        private final int[] heights = new int[MAX_DEPTH];
        private int depth;
        private final int[] siteOf = new int[MAX_OBJECTS];
        // Where each object begins in the heap; it ends where the next one begins.
        private final int[] baseOf = new int[MAX_OBJECTS + 1];
        private int objects;
        private final int[] heap = new int[MAX_CELLS];
        private final int[] input;
        private int readNext;
        private int outcome;
        private boolean stray;
        int stepCount;
        int endPlace = -1;
        int thrownSite = -1;
        int outputCount;
        final int[] output = new int[MAX_OUTPUT];
        int strayCount;

        Machine(Program program, Proof proof, int[] input) {
            this.program = program;
            this.proof = proof;
            this.input = input;
        }

        int execute(Program run, int fuel) {
            program = run;
            depth = 0;
            objects = 0;
            baseOf[0] = 0;
            readNext = 0;
            outcome = RUNNING;
            stepCount = 0;
            thrownSite = -1;
            outputCount = 0;
            beginBody(program.bodies.main);
            for (int n = 0; n <= fuel && outcome == RUNNING; n++) {
                if (stepCount >= fuel) {
                    finish(NO_FUEL, at[depth]);
                } else {
                    stepCount++;
                    stray = !isAsProved();
                    int i = at[depth];
                    int thrown = perform(i);
                    if (thrown != 0) {
                        throwObject(i, thrown);
                    }
                    strayCount += stray ? 1 : 0;
                }
            }
            return outcome;
        }

        private void finish(int how, int where) {
            outcome = how;
            endPlace = where;
        }

        private void beginBody(int b) {
            for (int s = 0; s < SLOTS; s++) {
                cells[depth * SLOTS + s] = 0L;
            }
            at[depth] = program.bodies.start[b];
            heights[depth] = 0;
        }

        /** Does one step: the object that it throws, or 0. */
        private int perform(int i) {
            int op = program.op[i];
            if (op <= SWAP) {
                return move(i, op);
            }
            if (op <= NEG) {
                return calculate(i, op);
            }
            if (op <= OTHER) {
                return jump(i, op);
            }
            switch (op) {
                case NEW:
                    return makeObject(i, program.classes.cells[program.first[i]], 0);
                case ARRAY:
                    return numberAt(0) < 0 ? raise(i, SIZE_ERROR) : makeObject(i, numberAt(0), 1);
                case LENGTH:
                    return numberAt(0) == 0 ? raise(i, NULL_ERROR) : leave(1, intCell(extentOf(numberAt(0))));
                case ALOAD:
                case ASTORE:
                    return useElement(i, op);
                case GET:
                case PUT:
                    return useField(i, op);
                case CAST:
                case IS:
                    return useType(i, op);
                case CALL:
                case SEND:
                    return enterBody(i, op);
                case THROW:
                    return numberAt(0) == 0 ? raise(i, NULL_ERROR) : numberAt(0);
                case GIVE:
                case BACK:
                    return leaveBody(i, op);
                case READ:
                    return leave(0, intCell(nextInput()));
                default:
                    return write();
            }
        }

        private int next() {
            at[depth]++;
            return 0;
        }

        /** The cell that stands there from the top of the stack on, 0 the highest. */
        private int fromTop(int n) {
            return depth * SLOTS + STACK + heights[depth] - 1 - n;
        }

        private int numberAt(int n) {
            return (int) cells[fromTop(n)];
        }

        private void push(long cell) {
            if (heights[depth] < MAX_STACK) {
                heights[depth]++;
                cells[fromTop(0)] = cell;
            }
        }

        private void drop(int n) {
            heights[depth] -= n;
        }

        private static long intCell(int v) {
            return INT_CELL | v & LOWER;
        }

        private static long refCell(int ref) {
            return REF_CELL | ref;
        }

        /** Takes n cells, leaves one and goes on. */
        private int leave(int n, long cell) {
            drop(n);
            push(cell);
            return next();
        }

        private int move(int i, int op) {
            int local = depth * SLOTS + program.first[i];
            switch (op) {
                case PUSH:
                    push(intCell(program.first[i]));
                    break;
                case NULL:
                    push(refCell(0));
                    break;
                case LOAD:
                    push(cells[local]);
                    break;
                case STORE:
                    cells[local] = cells[fromTop(0)];
                    drop(1);
                    break;
                case INC:
                    cells[local] = intCell((int) cells[local] + program.second[i]);
                    break;
                case DUP:
                    push(cells[fromTop(0)]);
                    break;
                case POP:
                    drop(1);
                    break;
                default:
                    long top = cells[fromTop(0)];
                    cells[fromTop(0)] = cells[fromTop(1)];
                    cells[fromTop(1)] = top;
                    break;
            }
            return next();
        }

        private int calculate(int i, int op) {
            int b = numberAt(0);
            if (op == NEG) {
                return leave(1, intCell(-b));
            }
            if ((op == DIV || op == REM) && b == 0) {
                return raise(i, DIVIDE_ERROR);
            }
            return leave(2, intCell(calculated(op, numberAt(1), b)));
        }

        private static int calculated(int op, int a, int b) {
            switch (op) {
                case ADD: return a + b;
                case SUB: return a - b;
                case MUL: return a * b;
                case DIV: return b == 0 ? 0 : b == -1 ? -a : a / b;
                case REM: return b == 0 || b == -1 ? 0 : a % b;
                case AND: return a & b;
                case OR: return a | b;
                case XOR: return a ^ b;
                case SHL: return a << (b & 31);
                default: return a >> (b & 31);
            }
        }

        private int jump(int i, int op) {
            boolean jumps = op == GOTO || holds(op, op == ISNULL || op == NOTNULL ? 0 : numberAt(1), numberAt(0));
            drop(TAKES[op]);
            at[depth] = jumps ? program.first[i] : i + 1;
            return 0;
        }

        private static boolean holds(int op, int a, int b) {
            switch (op) {
                case EQ:
                case ISNULL:
                case SAME: return a == b;
                case NE:
                case NOTNULL:
                case OTHER: return a != b;
                case LT: return a < b;
                case LE: return a <= b;
                case GT: return a > b;
                default: return a >= b;
            }
        }

        /** A new object, as n + 1; 0 if the heap is full, which ends the run. */
        private int make(int i, int site, int extent) {
            int base = baseOf[objects];
            if (objects >= MAX_OBJECTS || extent < 0 || extent > MAX_CELLS - base) {
                finish(HEAP_FULL, i);
                return 0;
            }
            for (int k = 0; k < extent; k++) {
                heap[base + k] = 0;
            }
            siteOf[objects] = site;
            objects++;
            baseOf[objects] = base + extent;
            return objects;
        }

        /** The error that an instruction raises; 0 if there is no room for it. */
        private int raise(int i, int error) {
            if ((proof.found[i] >>> error & 1) == 0) {
                stray = true;
            }
            return make(i, MAX_SITES + error, 0);
        }

        /** Goes on at the first catch that takes the object, in the body that runs or one that called it. */
        private void throwObject(int i, int ref) {
            int site = siteOf[ref - 1];
            for (int n = 0; n < MAX_DEPTH; n++) {
                int c = catchOf(at[depth], program.siteType[site]);
                if (c >= 0) {
                    heights[depth] = 0;
                    push(refCell(ref));
                    at[depth] = program.catchAt[c];
                    return;
                }
                if (depth == 0) {
                    thrownSite = site;
                    finish(THROWN_OUT, i);
                    return;
                }
                depth--;
            }
        }

        private int catchOf(int i, int type) {
            int b = program.bodyOf[i];
            for (int c = program.bodies.catchStart[b]; c < program.bodies.catchEnd[b]; c++) {
                if (program.covers(c, i) && program.classes.isBelow(type, T_CLASS + 2 * program.catchClass[c])) {
                    return c;
                }
            }
            return -1;
        }

        private int typeOf(int ref) {
            return program.siteType[siteOf[ref - 1]];
        }

        private int extentOf(int ref) {
            return baseOf[ref] - baseOf[ref - 1];
        }

        private int makeObject(int i, int extent, int taken) {
            int made = make(i, program.second[i], extent);
            return made == 0 ? 0 : leave(taken, refCell(made));
        }

        private int useElement(int i, int op) {
            int n = op == ALOAD ? 1 : 2;
            int array = numberAt(n);
            int index = numberAt(n - 1);
            if (array == 0) {
                return raise(i, NULL_ERROR);
            }
            if (index < 0 || index >= extentOf(array)) {
                return raise(i, INDEX_ERROR);
            }
            int cell = baseOf[array - 1] + index;
            int element = Classes.element(typeOf(array));
            if (op == ALOAD) {
                return leave(2, element == T_INT ? intCell(heap[cell]) : refCell(heap[cell]));
            }
            int v = numberAt(0);
            if (element != T_INT && v != 0 && !program.classes.isBelow(typeOf(v), element)) {
                return raise(i, STORE_ERROR);
            }
            heap[cell] = v;
            drop(3);
            return next();
        }

        private int useField(int i, int op) {
            int f = program.first[i];
            int object = numberAt(op == GET ? 0 : 1);
            if (object == 0) {
                return raise(i, NULL_ERROR);
            }
            int cell = baseOf[object - 1] + program.classes.fieldPlace[f];
            if (op == GET) {
                boolean number = program.classes.fieldType[f] == T_INT;
                return leave(1, number ? intCell(heap[cell]) : refCell(heap[cell]));
            }
            heap[cell] = numberAt(0);
            drop(2);
            return next();
        }

        private int useType(int i, int op) {
            int ref = numberAt(0);
            boolean fits = ref != 0 && program.classes.isBelow(typeOf(ref), program.first[i]);
            if (op == IS) {
                return leave(1, intCell(fits ? 1 : 0));
            }
            return ref == 0 || fits ? next() : raise(i, CAST_ERROR);
        }

        private int nextInput() {
            int v = readNext < input.length ? input[readNext] : 0;
            readNext++;
            return v;
        }

        private int write() {
            if (outputCount < MAX_OUTPUT) {
                output[outputCount] = numberAt(0);
            }
            outputCount++;
            drop(1);
            return next();
        }

        private int enterBody(int i, int op) {
            int b = program.first[i];
            int arity = program.bodies.arity[b];
            if (op == SEND) {
                int object = numberAt(arity - 1);
                if (object == 0) {
                    return raise(i, NULL_ERROR);
                }
                b = program.bodies.running(Classes.classOf(typeOf(object)), b);
            }
            if (b < 0 || depth + 1 >= MAX_DEPTH) {
                finish(TOO_DEEP, i);
                return 0;
            }
            drop(arity);
            int given = fromTop(0) + 1;
            depth++;
            beginBody(b);
            System.arraycopy(cells, given, cells, depth * SLOTS, arity);
            return 0;
        }

        private int leaveBody(int i, int op) {
            if (depth == 0) {
                finish(BACK_IN_MAIN, i);
                return 0;
            }
            long given = cells[fromTop(0)];
            depth--;
            if (op == GIVE) {
                push(given);
            }
            return next();
        }

        /** Whether the state of the instruction that is next tells what it meets. */
        private boolean isAsProved() {
            int i = at[depth];
            if (!proof.states.reached[i]) {
                return false;
            }
            int locals = program.bodies.locals[program.bodyOf[i]];
            for (int s = 0; s < STACK + heights[depth]; s++) {
                if ((s < locals || s >= STACK) && !isSlotAsProved(i * SLOTS + s, cells[depth * SLOTS + s])) {
                    return false;
                }
            }
            return true;
        }

        private boolean isSlotAsProved(int slot, long cell) {
            long facts = proof.states.facts[slot];
            if ((facts & KIND_BITS) == 0L) {
                return true;
            }
            long told = proof.states.values[slot];
            boolean number = (facts & INT_KIND) != 0L;
            int v = (int) cell;
            if (number != (cell >>> 32 == 1L) || cell >>> 32 == 0L) {
                return false;
            }
            boolean inside;
            if (number) {
                inside = v >= Ranges.lowest(told) && v <= Ranges.highest(told);
            } else {
                inside = (told & (v == 0 ? NULL_BIT : 1L << siteOf[v - 1])) != 0L;
            }
            int copy = States.copyOf(facts);
            boolean copied = copy < 0 || cells[depth * SLOTS + copy] == cell;
            return inside && copied && ((facts & ALL_SETS) == 0L || areSetsAsProved(facts, cell));
        }

        private boolean areSetsAsProved(long facts, long cell) {
            int v = (int) cell;
            int own = lengthOf(cell);
            for (int k = 0; k < MAX_LOCALS; k++) {
                long local = cells[depth * SLOTS + k];
                boolean number = local >>> 32 == 1L;
                int length = lengthOf(local);
                long told = facts >>> k;
                boolean wrong = (told & 1L) != 0L && (!number || v >= (int) local)
                    || (told >>> UNDER_SHIFT & 1L) != 0L && (length < 0 || v >= length)
                    || (told >>> LENGTH_SHIFT & 1L) != 0L && (length < 0 || v != length)
                    || (told >>> SIZED_SHIFT & 1L) != 0L && (!number || own < 0 || own != (int) local);
                if (wrong) {
                    return false;
                }
            }
            return true;
        }

        /** The length of the array that a cell means; -1 if it means none. */
        private int lengthOf(long cell) {
            int ref = (int) cell;
            boolean array = cell >>> 32 == 2L && ref != 0 && Classes.isArray(typeOf(ref));
            return array ? extentOf(ref) : -1;
        }
    }
}
