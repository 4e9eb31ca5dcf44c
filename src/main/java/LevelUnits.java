import java.util.Arrays;

/** A language of units: texts are read and judged, types are compared, programs run step by step. */
public final class LevelUnits {
    public static final int NONE = -1;

    private static final int TAPE_ROOM = 6000;
    private static final int NAMES_ROOM = 3001;
    private static final int UNITS_ROOM = 12;
    private static final int FORMALS_ROOM = 8;
    private static final int DEEPEST = 20;
    private static final int ARRAY_ROOM = 1000;
    private static final int PARTS_ROOM = 2000;
    private static final int GLOBALS_ROOM = 5000;
    private static final int THINGS_ROOM = 2000;
    private static final int HEAP_ROOM = 20000;
    private static final int FRAMES_ROOM = 2000;
    private static final int CALLS_ROOM = 60;
    private static final int THREADS_ROOM = 64;
    private static final int OUTPUT_ROOM = 500;
    private static final int RUN_ROOM = 2000;
    /** Far more than one ACT can pass on its way to the next one. */
    private static final int FAR = 1000000;
    private static final int NOTHING_FOUND = 0x7fffffff;
    private static final long MANY = 1000000000L;

    /** Tokens; a sign of one byte is that byte, a WORD is 200 and its place in WORDS. */
    private static final int TEXT_END = 0;
    private static final int BAD = 1;
    private static final int NAME = 2;
    private static final int NUMBER = 3;
    private static final int DOTS = 4;
    private static final int BECOMES = 5;
    private static final int AT_MOST = 6;
    private static final int AT_LEAST = 7;
    private static final int SUBTYPE = 8;
    private static final int ARROW = 9;
    private static final int FIRST_WORD = 200;
    private static final int AND = 200;
    private static final int ARRAY = 201;
    private static final int BEGIN = 202;
    private static final int BOOLEAN = 203;
    private static final int BROADCAST = 204;
    private static final int CONDITION = 205;
    private static final int DIV = 206;
    private static final int DO = 207;
    private static final int ELSE = 208;
    private static final int ELSIF = 209;
    private static final int END = 210;
    private static final int EXCEPT = 211;
    private static final int EXCEPTION = 212;
    private static final int EXIT = 213;
    private static final int FALSE = 214;
    private static final int FINALLY = 215;
    private static final int FOR = 216;
    private static final int FORK = 217;
    private static final int IF = 218;
    private static final int IMPORT = 219;
    private static final int INTEGER = 220;
    private static final int INTERFACE = 221;
    private static final int ISTYPE = 222;
    private static final int JOIN = 223;
    private static final int LOCK = 224;
    private static final int LOOP = 225;
    private static final int METHODS = 226;
    private static final int MOD = 227;
    private static final int MODULE = 228;
    private static final int MUTEX = 229;
    private static final int NARROW = 230;
    private static final int NEW = 231;
    private static final int NIL = 232;
    private static final int NOT = 233;
    private static final int OBJECT = 234;
    private static final int OF = 235;
    private static final int OR = 236;
    private static final int OVERRIDES = 237;
    private static final int PROCEDURE = 238;
    private static final int PUT = 239;
    private static final int RAISE = 240;
    private static final int RAISES = 241;
    private static final int RECORD = 242;
    private static final int REF = 243;
    private static final int RETURN = 244;
    private static final int REVEAL = 245;
    private static final int ROOT = 246;
    private static final int SIGNAL = 247;
    private static final int THEN = 248;
    private static final int THREAD = 249;
    private static final int TO = 250;
    private static final int TRUE = 251;
    private static final int TRY = 252;
    private static final int TYPE = 253;
    private static final int TYPECASE = 254;
    private static final int VAR = 255;
    private static final int WAIT = 256;
    private static final int WHILE = 257;
    /** Each WORD with a space behind it. */
    private static final String WORDS = "AND ARRAY BEGIN BOOLEAN BROADCAST CONDITION DIV DO ELSE ELSIF END EXCEPT EXCEPTION EXIT FALSE FINALLY FOR FORK IF IMPORT INTEGER INTERFACE ISTYPE JOIN LOCK LOOP METHODS MOD MODULE MUTEX NARROW NEW NIL NOT OBJECT OF OR OVERRIDES PROCEDURE PUT RAISE RAISES RECORD REF RETURN REVEAL ROOT SIGNAL THEN THREAD TO TRUE TRY TYPE TYPECASE VAR WAIT WHILE ";
    private static final String SIGNS = "(){}[],;:.=#<>+-*^|";

    /** Kinds of types, as type() tells them; the last two are none that it tells. */
    private static final int T_INTEGER = 0;
    private static final int T_BOOLEAN = 1;
    private static final int T_RANGE = 2;
    private static final int T_ARRAY = 3;
    private static final int T_RECORD = 4;
    private static final int T_REF = 5;
    private static final int T_PROCEDURE = 6;
    private static final int T_MUTEX = 7;
    private static final int T_CONDITION = 8;
    private static final int T_THREAD = 9;
    private static final int T_ROOT = 10;
    private static final int T_LEVEL = 11;
    private static final int T_OPAQUE = 12;
    private static final int T_NAMED = 13;
    private static final int T_NIL = 14;

    /** Kinds of what is told by a name; D_REVEAL is REVEAL =, D_HINT is REVEAL <: . */
    private static final int D_INTERFACE = 0;
    private static final int D_MODULE = 1;
    private static final int D_IMPORT = 2;
    private static final int D_TYPE = 3;
    private static final int D_OPAQUE = 4;
    private static final int D_REVEAL = 5;
    private static final int D_HINT = 6;
    private static final int D_VAR = 7;
    private static final int D_EXCEPTION = 8;
    private static final int D_PROCEDURE = 9;
    private static final int D_FIELD = 10;
    private static final int D_METHOD = 11;
    private static final int D_OVERRIDE = 12;
    private static final int D_FORMAL = 13;
    private static final int D_VARFORMAL = 14;
    private static final int D_LOCAL = 15;
    private static final int D_FORNAME = 16;
    private static final int D_PARTNAME = 17;

    /** Kinds of PARTs of STATEMENTs (STATEMENTs and OPs have the tokens as kinds, where one tells them). */
    private static final int P_PLAIN = 300;
    private static final int P_ELSE = 301;
    private static final int P_HANDLER = 302;
    private static final int P_BRANCH = 303;
    private static final int P_FINALLY = 304;

    /** Kinds of OPs that no token tells. */
    private static final int O_LOAD = 310;
    private static final int O_KEEP = 311;
    private static final int O_NEGATE = 312;
    private static final int O_INSIDE = 313;
    private static final int O_METHOD = 314;
    private static final int O_QNAME = 315;
    private static final int O_PARAMETER = 316;
    private static final int O_START = 317;
    private static final int OPERATORS_ROOM = 200;
    private static final int VALUES_ROOM = 200;

    /** The four sorts that may be 20 within one another. */
    private static final int SORT_BRACKETS = 0;
    private static final int SORT_NOTS = 1;
    private static final int SORT_TYPES = 2;
    private static final int SORT_STATEMENTS = 3;

    /** How tightly operators bind. */
    private static final int BINDS_OR = 1;
    private static final int BINDS_AND = 2;
    private static final int BINDS_NOT = 3;
    private static final int BINDS_RELATION = 4;
    private static final int BINDS_SUM = 5;
    private static final int BINDS_PRODUCT = 6;
    private static final int BINDS_NEGATE = 7;

    /** States of a thread, as thread() tells them. */
    private static final int READY = 0;
    private static final int WAITS_MUTEX = 1;
    private static final int WAITS_ROW = 2;
    private static final int WAITS_THREAD = 3;
    private static final int OVER = 4;
    private static final int RAISED = 5;
    private static final int FAILED = 6;

    /** FAULTS of a run. */
    private static final int F_OVERFLOW = 1;
    private static final int F_DIVISOR = 2;
    private static final int F_INDEX = 3;
    private static final int F_RANGE = 4;
    private static final int F_NIL = 5;
    private static final int F_TYPE = 6;
    private static final int F_TYPECASE = 7;
    private static final int F_NOT_HELD = 8;
    private static final int F_ROOM = 9;
    private static final int F_NO_PROCEDURE = 10;
    private static final int F_NO_RETURN = 11;

    /** A place is a number: which row of cells, times ROW, and which cell of it. */
    private static final int ROW_SHIFT = 16;
    private static final int ROW_MASK = 0xffff;
    private static final int ROW_GLOBALS = 0;
    private static final int ROW_HEAP = 1;
    private static final int ROW_FRAMES = 2;
    private static final int ROW_SLOTS = 3;
    /** A STATEMENT has four slots for what takes no CELLS; STATEMENTs are at most 20 within one another. */
    private static final int SLOTS_EACH = 4;
    private static final int SLOTS_A_CALL = SLOTS_EACH * DEEPEST;

    private final byte[] tape = new byte[TAPE_ROOM];
    private int length;
    private final Scanner scanner = new Scanner();
    private final Machine machine = new Machine();
    private Types program;

    public LevelUnits() {
    }

    // ---- the text and its rules

    public int feed(int a, int b, int c, int d, int e) {
        if (length + 20 > TAPE_ROOM) {
            return NONE;
        }
        putBytes(a);
        putBytes(b);
        putBytes(c);
        putBytes(d);
        putBytes(e);
        return length;
    }

    private void putBytes(int four) {
        for (int shift = 24; shift >= 0 && length < TAPE_ROOM; shift -= 8) {
            tape[length] = (byte) (four >>> shift);
            length++;
        }
    }

    public int back(int n) {
        if (n < 0 || n > length) {
            return NONE;
        }
        length -= n;
        return length;
    }

    public int read() {
        program = null;
        machine.clear();
        scanner.scan(tape, length);
        length = 0;
        Parser parser = new Parser(scanner);
        parser.parse();
        if (parser.fault != 0) {
            return parser.fault;
        }
        int fault = new Names(parser).judge();
        if (fault != 0) {
            return fault;
        }
        Types types = new Types(parser);
        types.prepare();
        fault = types.judge();
        if (fault != 0) {
            return fault;
        }
        types.layOut();
        Checker checker = new Checker(types);
        fault = checker.judgeTypes(parser.stats);
        if (fault == 0) {
            fault = checker.judgeExceptions(parser.stats);
        }
        if (fault == 0) {
            program = types;
        }
        return fault;
    }

    public int count(int what) {
        if (what == 3) {
            return length;
        }
        if (what >= 5 && what <= 13) {
            return machine.figure(what);
        }
        if (what < 0 || what > 13) {
            return NONE;
        }
        if (program == null) {
            return 0;
        }
        if (what == 0) {
            return program.tokens;
        }
        if (what == 1) {
            return program.unitRow.length;
        }
        return what == 2 ? program.typeRow.length : program.globalCells;
    }

    // ---- types

    private Node typeNumbered(int i) {
        if (program == null || i < 0 || i >= program.typeRow.length) {
            return null;
        }
        return program.typeRow[i].type.real;
    }

    private Decl unitNumbered(int u) {
        if (program == null || u < 0 || u >= program.unitRow.length) {
            return null;
        }
        return program.unitRow[u];
    }

    public int alike(int i, int j) {
        Node a = typeNumbered(i);
        Node b = typeNumbered(j);
        if (a == null || b == null) {
            return NONE;
        }
        return a.shape == b.shape ? 1 : 0;
    }

    public int below(int u, int i, int j) {
        Decl unit = unitNumbered(u);
        Node a = typeNumbered(i);
        Node b = typeNumbered(j);
        if (unit == null || a == null || b == null) {
            return NONE;
        }
        return program.isBelow(unit, a, b) ? 1 : 0;
    }

    public int type(int i, int what) {
        Node t = typeNumbered(i);
        if (t == null) {
            return NONE;
        }
        Decl d = program.typeRow[i];
        switch (what) {
            case 0:
                return d.unit.number;
            case 1:
                return d.line;
            case 2:
                return t.kind;
            case 3:
                return t.cells;
            case 4:
                return program.wholeChain(t);
            case 5:
                return program.least[t.shape];
            default:
                return NONE;
        }
    }

    public int sees(int u, int i) {
        Decl unit = unitNumbered(u);
        Node t = typeNumbered(i);
        if (unit == null || t == null || !isObject(t)) {
            return NONE;
        }
        return program.chainSeen(unit, t);
    }

    private static boolean isObject(Node t) {
        return t.kind == T_ROOT || t.kind == T_LEVEL || t.kind == T_OPAQUE;
    }

    private static boolean hasParts(Node t) {
        return t.kind == T_ARRAY || t.kind == T_RECORD;
    }

    private static boolean isReference(Node t) {
        return isObject(t) || t.kind == T_REF || t.kind == T_PROCEDURE || t.kind == T_MUTEX
                || t.kind == T_CONDITION || t.kind == T_THREAD;
    }

    // ---- the run

    public void begin(int seed) throws IllegalStateException {
        if (program == null) {
            throw new IllegalStateException("there is no program");
        }
        machine.startAnew(program, seed);
    }

    public int run(int n) throws IllegalArgumentException, IllegalStateException {
        if (n < 0 || n > RUN_ROOM) {
            throw new IllegalArgumentException("n is not 0 .. 2000");
        }
        if (!machine.begun()) {
            throw new IllegalStateException("no run has begun");
        }
        int done = 0;
        while (done < n && machine.doStep()) {
            done++;
        }
        return done;
    }

    public int output(int i) {
        return machine.outputAt(i);
    }

    public int cell(int i) {
        return machine.globalAt(i);
    }

    public int thread(int t, int what) {
        return machine.threadTold(t, what);
    }

    public int thing(int v, int what) {
        return machine.thingTold(v, what);
    }

    public int inside(int v, int i) {
        return machine.cellOfThing(v, i);
    }

    /** What a name tells: a UNIT, one of its DECLARATIONS, or a part of a type or PROCEDURE. */
    private static final class Decl {
        int kind;
        final int name;
        /** Where what it stands in begins (a FIELD's group, a METHOD, a DECLARATION). */
        final int line;
        final int nameLine;
        Decl unit;
        Decl next;
        Node type;
        /** Behind <: . */
        Node bound;
        /** The QNAME behind REVEAL, or of a METHOD's or OVERRIDE's PROCEDURE. */
        Op use;
        /** By DECLARATIONS; of a METHOD the shape of the type that it belongs to. */
        int number;
        /** Where the place is; of a PROCEDURE the CELLS of its FORMALs. */
        int offset;
        /** A UNIT's first DECLARATION, a PROCEDURE's first LOCAL. */
        Decl first;
        Stat body;
        int endLine;
        /** MODULE: its INTERFACE; IMPORT: what it means; PROCEDURE: told and made; OVERRIDE: its METHOD. */
        Decl other;
        /** Of an OPAQUE type the first REVEAL of it, of a REVEAL the next one. */
        Decl reveal;
        /** Which units' REVEALs a UNIT sees, a bit each; of a TYPE a mark of a search. */
        int mask;
        int cells;
        /** The names of TYPEs that a TYPE = holds by RECORDs and ARRAYs, or is. */
        Node held;

        Decl(int kind, int name, int line, int nameLine) {
            this.kind = kind;
            this.name = name;
            this.line = line;
            this.nameLine = nameLine;
        }
    }

    /** A TYPE where it is written; a SIGNATURE is one, too. */
    private static final class Node {
        final int kind;
        final int index;
        final int line;
        final Decl unit;
        /** Bounds; of a SIGNATURE lo is how many FORMALs it has. */
        int lo;
        int hi;
        /** Of an ARRAY or REF what it is of, the RESULT, the SUPER. */
        Node elem;
        /** FIELDS, METHODS and OVERRIDES, in this order, or FORMALs. */
        Decl items;
        /** The QNAMEs of a SET. */
        Op raises;
        /** The QNAME that it is. */
        Op use;
        /** The DECLARATION of an OPAQUE type, or the REVEAL = of a LEVEL that is no type by itself. */
        Decl own;
        /** What it is when names are replaced. */
        Node real;
        /** Above it in its WHOLE CHAIN. */
        Node up;
        /** Above an OPAQUE type, as each unit sees it. */
        Node[] views;
        /** Alike types have the same one. */
        int shape;
        int cells = NONE;
        /** The values of its CELLS at first; null: all are 0. */
        int[] firsts;
        /** The CELLS of an OBJECT of the type. */
        int size;
        Node next;
        Node nextHeld;

        Node(int kind, int index, int line, Decl unit) {
            this.kind = kind;
            this.index = index;
            this.line = line;
            this.unit = unit;
        }
    }

    /** A STATEMENT, or a PART of one: a list of STATEMENTs with what stands ahead of it. */
    private static final class Stat {
        int kind;
        final int line;
        /** Of a STATEMENT the PART it stands in, of a PART its STATEMENT (null: the body of `decl`). */
        final Stat home;
        /** The PROCEDURE or MODULE it stands in. */
        final Decl decl;
        Stat next;
        Stat nextOfAll;
        /** Of a STATEMENT its first PART, of a PART its first STATEMENT. */
        Stat parts;
        Op place;
        Op first;
        Op second;
        Op parameters;
        /** The EXCEPTION of a RAISE or HANDLER, those of the SET of a CALL's SIGNATURE. */
        Op use;
        /** The NAME of a FOR, HANDLER, BRANCH; the METHOD of a CALL. */
        Decl name;
        /** Of a BRANCH; else that of the PLACE ahead of := . */
        Node type;
        /** How many STATEMENTs it stands in. */
        int level;

        Stat(int kind, int line, Stat home, Decl decl) {
            this.kind = kind;
            this.line = line;
            this.home = home;
            this.decl = decl;
        }
    }

    /** One operation of an E or PLACE, which stand with operands ahead of operators; or a QNAME. */
    private static final class Op {
        int kind;
        /** A NAME, or the NUMBER. */
        final int name;
        /** The first NAME of a QNAME that has two, else NONE. */
        final int unitName;
        final int line;
        /** Behind NEW, ISTYPE, NARROW; of what [ or ^ stands behind. */
        Node type;
        Decl decl;
        /** The OPs of a parameter. */
        Op sub;
        Op next;

        Op(int kind, int name, int unitName, int line) {
            this.kind = kind;
            this.name = name;
            this.unitName = unitName;
            this.line = line;
        }
    }

    /** Parts a text into tokens. */
    private static final class Scanner {
        final int[] kinds = new int[TAPE_ROOM + 1];
        final int[] values = new int[TAPE_ROOM + 1];
        final int[] lines = new int[TAPE_ROOM + 1];
        int tokens;
        private byte[] text;
        private int size;
        private int at;
        private int line;
        private final int[] heads = new int[256];
        private final int[] chains = new int[NAMES_ROOM];
        private final int[] starts = new int[NAMES_ROOM];
        private final int[] sizes = new int[NAMES_ROOM];
        private int names;

        /** All tokens up to the end or the first bad one, which stands behind them. */
        void scan(byte[] tape, int length) {
            text = tape;
            size = Math.min(length, tape.length);
            at = 0;
            line = 1;
            tokens = 0;
            names = 0;
            Arrays.fill(heads, NONE);
            boolean more = true;
            for (int i = 0; i <= TAPE_ROOM && more; i++) {
                more = scanToken();
            }
        }

        private boolean scanToken() {
            int open = skipBlanks();
            if (open > 0) {
                return putToken(BAD, 0, open);
            }
            if (at >= size) {
                return putToken(TEXT_END, 0, line);
            }
            int c = text[at] & 255;
            if (isLetter(c)) {
                return scanName();
            }
            if (isDigit(c)) {
                return scanNumber();
            }
            return scanSign(c);
        }

        private boolean putToken(int kind, int value, int begin) {
            if (tokens > TAPE_ROOM) {
                return false;
            }
            kinds[tokens] = kind;
            values[tokens] = value;
            lines[tokens] = begin;
            if (kind == BAD || kind == TEXT_END) {
                return false;
            }
            tokens++;
            return true;
        }

        /** 0, or the line of a note that does not end. */
        private int skipBlanks() {
            for (; at < size; at++) {
                int c = text[at] & 255;
                if (c == '\n') {
                    line++;
                } else if (isPair('(', '*')) {
                    int open = line;
                    if (!skipNote()) {
                        return open;
                    }
                } else if (c != ' ' && c != '\t' && c != '\r') {
                    return 0;
                }
            }
            return 0;
        }

        /** Goes to the last byte of the note that begins here; false if it does not end. */
        private boolean skipNote() {
            int deep = 0;
            for (; at < size; at++) {
                if (isPair('(', '*')) {
                    deep++;
                    at++;
                } else if (isPair('*', ')')) {
                    deep--;
                    at++;
                    if (deep == 0) {
                        return true;
                    }
                } else if (text[at] == '\n') {
                    line++;
                }
            }
            return false;
        }

        private boolean isPair(int one, int two) {
            return at + 1 < size && text[at] == one && text[at + 1] == two;
        }

        private static boolean isLetter(int c) {
            return c >= 'A' && c <= 'Z' || c >= 'a' && c <= 'z';
        }

        private static boolean isDigit(int c) {
            return c >= '0' && c <= '9';
        }

        private boolean scanName() {
            int start = at;
            for (; at < size; at++) {
                int c = text[at] & 255;
                if (!isLetter(c) && !isDigit(c) && c != '_') {
                    break;
                }
            }
            int bytes = at - start;
            if (bytes > 16) {
                return putToken(BAD, 0, line);
            }
            int word = wordAt(start, bytes);
            if (word != NONE) {
                return putToken(word, 0, line);
            }
            return putToken(NAME, nameAt(start, bytes), line);
        }

        private int wordAt(int start, int bytes) {
            int word = FIRST_WORD;
            int same = 0;
            boolean fits = true;
            for (int i = 0; i < WORDS.length(); i++) {
                char c = WORDS.charAt(i);
                if (c == ' ') {
                    if (fits && same == bytes) {
                        return word;
                    }
                    word++;
                    same = 0;
                    fits = true;
                } else if (fits && same < bytes && text[start + same] == c) {
                    same++;
                } else {
                    fits = false;
                }
            }
            return NONE;
        }

        /** The number of the name: the same one for the same bytes. */
        private int nameAt(int start, int bytes) {
            int hash = bytes;
            for (int i = 0; i < bytes; i++) {
                hash = hash * 31 + text[start + i];
            }
            hash = (hash ^ hash >>> 8) & 255;
            for (int n = heads[hash], i = 0; n != NONE && i < names; n = chains[n], i++) {
                if (sizes[n] == bytes && isSameText(starts[n], start, bytes)) {
                    return n;
                }
            }
            if (names >= NAMES_ROOM) {
                return 0;
            }
            starts[names] = start;
            sizes[names] = bytes;
            chains[names] = heads[hash];
            heads[hash] = names;
            names++;
            return names - 1;
        }

        private boolean isSameText(int one, int two, int bytes) {
            for (int i = 0; i < bytes; i++) {
                if (text[one + i] != text[two + i]) {
                    return false;
                }
            }
            return true;
        }

        private boolean scanNumber() {
            int start = at;
            long value = 0;
            for (; at < size && isDigit(text[at] & 255); at++) {
                value = Math.min(value * 10 + text[at] - '0', MANY * 10);
            }
            if (at - start > 10 || value > 2147483647L) {
                return putToken(BAD, 0, line);
            }
            if (at < size && (isLetter(text[at] & 255) || text[at] == '_')) {
                return putToken(BAD, 0, line);
            }
            return putToken(NUMBER, (int) value, line);
        }

        private boolean scanSign(int c) {
            int two = NONE;
            if (isPair('.', '.')) {
                two = DOTS;
            } else if (isPair(':', '=')) {
                two = BECOMES;
            } else if (isPair('<', '=')) {
                two = AT_MOST;
            } else if (isPair('>', '=')) {
                two = AT_LEAST;
            } else if (isPair('<', ':')) {
                two = SUBTYPE;
            } else if (isPair('=', '>')) {
                two = ARROW;
            }
            if (two != NONE) {
                at += 2;
                return putToken(two, 0, line);
            }
            if (SIGNS.indexOf((char) c) < 0) {
                return putToken(BAD, 0, line);
            }
            at++;
            return putToken(c, 0, line);
        }
    }

    /** Reads the tokens by the grammar; at the first FAULT the token in hand becomes BAD, which stands nowhere. */
    private static final class Parser {
        private final Scanner in;
        private int at;
        private int kind;
        int fault;
        private final int[] open = new int[4];
        /** The operators of E's that wait for their operands: 8 times each, and how tightly it binds. */
        private final int[] waiting = new int[OPERATORS_ROOM];
        private int waitingTop;
        private Decl unit;
        /** The PROCEDURE or MODULE whose STATEMENTS are read. */
        private Decl body;
        /** The TYPE = whose own CELLS are told here, if any. */
        private Decl holder;
        /** Where the innermost DECLARATION, LOCALS, FIELDS, METHOD, OVERRIDE, STATEMENT begins. */
        private int line;
        private Op tail;
        private Decl lastTold;
        private Node lastNode;
        private Stat lastStat;
        Decl units;
        Stat stats;
        /** The first one of all types. */
        final Node root;
        final Node integer;
        final Node bool;

        Parser(Scanner in) {
            this.in = in;
            root = new Node(T_ROOT, 0, 0, null);
            integer = new Node(T_INTEGER, 1, 0, null);
            bool = new Node(T_BOOLEAN, 2, 0, null);
            root.next = integer;
            integer.next = bool;
            lastNode = bool;
        }

        int tokens() {
            return in.tokens;
        }

        int nodeCount() {
            return lastNode.index + 1;
        }

        private void fail(int code) {
            if (fault == 0) {
                fault = (kind == BAD ? 1 : code) + 16 * in.lines[at];
            }
            kind = BAD;
        }

        /** Goes to the next token, if this one is wanted. */
        private boolean accept(int wanted) {
            if (kind != wanted) {
                return false;
            }
            if (at < in.tokens) {
                at++;
            }
            kind = in.kinds[at];
            return true;
        }

        private void advance() {
            accept(kind);
        }

        private void take(int wanted) {
            if (!accept(wanted)) {
                fail(2);
            }
        }

        private int takeName() {
            int name = in.values[at];
            if (accept(NAME)) {
                return name;
            }
            fail(2);
            return NONE;
        }

        private void takeEndName(Decl d) {
            if (kind == NAME && in.values[at] != d.name) {
                fail(4);
            }
            take(NAME);
        }

        private void takeOpening(int sign) {
            if (kind != sign) {
                fail(2);
            } else if (open[SORT_BRACKETS] >= DEEPEST) {
                fail(3);
            } else {
                open[SORT_BRACKETS]++;
                accept(sign);
            }
        }

        private void takeClosing(int sign) {
            take(sign);
            open[SORT_BRACKETS]--;
        }

        private Decl told(int declKind) {
            int nameLine = in.lines[at];
            Decl d = new Decl(declKind, takeName(), line, nameLine);
            d.unit = unit;
            return d;
        }

        private Op qname() {
            int begin = in.lines[at];
            int name = takeName();
            if (!accept('.')) {
                return new Op(O_QNAME, name, NONE, begin);
            }
            return new Op(O_QNAME, takeName(), name, begin);
        }

        private Node makeNode(int nodeKind) {
            Node n = new Node(nodeKind, lastNode.index + 1, line, unit);
            lastNode.next = n;
            lastNode = n;
            return n;
        }

        // units

        void parse() {
            kind = in.kinds[0];
            Decl last = null;
            for (int i = 0; i < UNITS_ROOM && (i == 0 || kind == INTERFACE || kind == MODULE); i++) {
                boolean module = kind == MODULE;
                line = in.lines[at];
                take(module ? MODULE : INTERFACE);
                unit = told(module ? D_MODULE : D_INTERFACE);
                unit.number = i;
                unit.unit = unit;
                if (last == null) {
                    units = unit;
                } else {
                    last.next = unit;
                }
                last = unit;
                lastTold = null;
                take(';');
                parseImports();
                for (int j = 0; j < TAPE_ROOM && beginsDeclaration(); j++) {
                    line = in.lines[at];
                    if (kind == PROCEDURE) {
                        parseProcedure();
                    } else {
                        parseDeclaration();
                    }
                    take(';');
                }
                if (module) {
                    take(BEGIN);
                    parseStatements(makeBody(unit));
                }
                take(END);
                takeEndName(unit);
                take('.');
            }
            if (kind != TEXT_END) {
                fail(2);
            }
        }

        private void parseImports() {
            if (!accept(IMPORT)) {
                return;
            }
            append(told(D_IMPORT));
            for (int i = 0; i < TAPE_ROOM && accept(','); i++) {
                append(told(D_IMPORT));
            }
            take(';');
        }

        private void append(Decl d) {
            if (lastTold == null) {
                unit.first = d;
            } else {
                lastTold.next = d;
            }
            lastTold = d;
        }

        private Stat makeBody(Decl owner) {
            body = owner;
            owner.body = new Stat(P_PLAIN, line, null, owner);
            return owner.body;
        }

        private boolean beginsDeclaration() {
            return kind == TYPE || kind == REVEAL || kind == VAR || kind == EXCEPTION || kind == PROCEDURE;
        }

        private void parseDeclaration() {
            int word = kind;
            advance();
            if (word == TYPE) {
                parseTypeTold();
            } else if (word == REVEAL) {
                parseReveal();
            } else if (word == EXCEPTION) {
                append(told(D_EXCEPTION));
            } else {
                Decl d = parseGroup(D_VAR, null);
                for (int i = 0; i < TAPE_ROOM && d != null; i++) {
                    Decl following = d.next;
                    append(d);
                    d = following;
                }
            }
        }

        private void parseTypeTold() {
            Decl d = told(D_TYPE);
            append(d);
            if (accept(SUBTYPE)) {
                d.kind = D_OPAQUE;
                d.type = makeNode(T_OPAQUE);
                d.type.own = d;
                d.bound = parseType();
            } else {
                take('=');
                holder = d;
                d.type = parseType();
                holder = null;
            }
        }

        private void parseReveal() {
            Decl d = new Decl(D_REVEAL, NONE, line, line);
            d.unit = unit;
            d.use = qname();
            append(d);
            if (accept(SUBTYPE)) {
                d.kind = D_HINT;
                d.bound = parseType();
                return;
            }
            take('=');
            Node above = root;
            if (kind == NAME) {
                above = parseNamed();
            } else if (kind == ROOT) {
                advance();
            }
            d.type = parseLevel(above);
            d.type.own = d;
        }

        private void parseProcedure() {
            int begin = line;
            advance();
            Decl d = told(D_PROCEDURE);
            append(d);
            d.type = parseSignature();
            if (unit.kind == D_INTERFACE) {
                return;
            }
            take('=');
            Decl last = null;
            for (int i = 0; i < TAPE_ROOM && kind == VAR; i++) {
                line = in.lines[at];
                advance();
                Decl group = parseGroup(D_LOCAL, null);
                if (last == null) {
                    d.first = group;
                } else {
                    last.next = group;
                }
                last = lastOf(group);
                take(';');
            }
            line = begin;
            take(BEGIN);
            parseStatements(makeBody(d));
            d.endLine = in.lines[at];
            take(END);
            takeEndName(d);
        }

        private static Decl lastOf(Decl group) {
            Decl last = group;
            for (Decl d = group; d != null; d = d.next) {
                last = d;
            }
            return last;
        }

        /** NAME,, : TYPE; answers the first of those that it tells. In a SIGNATURE they are counted. */
        private Decl parseGroup(int declKind, Node signature) {
            Decl first = null;
            Decl last = null;
            for (int i = 0; i < TAPE_ROOM && (i == 0 || accept(',')); i++) {
                if (signature != null) {
                    if (signature.lo >= FORMALS_ROOM) {
                        fail(2);
                    }
                    signature.lo++;
                }
                Decl d = told(declKind);
                if (last == null) {
                    first = d;
                } else {
                    last.next = d;
                }
                last = d;
            }
            take(':');
            Node t = parseType();
            for (Decl d = first; d != null; d = d.next) {
                d.type = t;
            }
            return first;
        }

        // types

        private boolean beginsType() {
            switch (kind) {
                case NAME:
                case INTEGER:
                case BOOLEAN:
                case MUTEX:
                case CONDITION:
                case THREAD:
                case ROOT:
                case '[':
                case ARRAY:
                case RECORD:
                case REF:
                case PROCEDURE:
                case OBJECT:
                    return true;
                default:
                    return false;
            }
        }

        private Node parseType() {
            if (!beginsType()) {
                fail(2);
                return integer;
            }
            if (open[SORT_TYPES] >= DEEPEST) {
                fail(3);
                return integer;
            }
            open[SORT_TYPES]++;
            Decl outer = holder;
            if (kind != NAME && kind != ARRAY && kind != RECORD) {
                holder = null;
            }
            Node n = parseShape();
            holder = outer;
            open[SORT_TYPES]--;
            return n;
        }

        private Node parseShape() {
            switch (kind) {
                case NAME:
                    Node named = parseNamed();
                    return kind == OBJECT ? parseLevel(named) : named;
                case ROOT:
                    advance();
                    return kind == OBJECT ? parseLevel(root) : root;
                case OBJECT:
                    return parseLevel(root);
                case '[':
                    Node range = makeNode(T_RANGE);
                    parseBounds(range);
                    return range;
                case ARRAY:
                    Node array = makeNode(T_ARRAY);
                    advance();
                    parseBounds(array);
                    take(OF);
                    array.elem = parseType();
                    return array;
                case RECORD:
                    Node record = makeNode(T_RECORD);
                    advance();
                    parseFields(record);
                    take(END);
                    return record;
                case REF:
                    Node ref = makeNode(T_REF);
                    advance();
                    ref.elem = parseType();
                    return ref;
                case PROCEDURE:
                    advance();
                    return parseSignature();
                default:
                    return parseSimple();
            }
        }

        private Node parseSimple() {
            int word = kind;
            advance();
            switch (word) {
                case BOOLEAN:
                    return bool;
                case MUTEX:
                    return makeNode(T_MUTEX);
                case CONDITION:
                    return makeNode(T_CONDITION);
                case THREAD:
                    return makeNode(T_THREAD);
                default:
                    return integer;
            }
        }

        private Node parseNamed() {
            Node n = makeNode(T_NAMED);
            n.use = qname();
            if (holder != null && kind != OBJECT) {
                n.nextHeld = holder.held;
                holder.held = n;
            }
            return n;
        }

        private void parseBounds(Node n) {
            takeOpening('[');
            n.lo = parseBound();
            take(DOTS);
            n.hi = parseBound();
            takeClosing(']');
        }

        private int parseBound() {
            boolean negative = accept('-');
            int value = in.values[at];
            take(NUMBER);
            return negative ? -value : value;
        }

        /** Answers the last FIELD. */
        private Decl parseFields(Node n) {
            int outer = line;
            Decl last = null;
            for (int i = 0; i < TAPE_ROOM && kind == NAME; i++) {
                line = in.lines[at];
                Decl group = parseGroup(D_FIELD, null);
                if (last == null) {
                    n.items = group;
                } else {
                    last.next = group;
                }
                last = lastOf(group);
                take(';');
            }
            line = outer;
            return last;
        }

        private Node parseLevel(Node above) {
            Node n = makeNode(T_LEVEL);
            Decl outer = holder;
            holder = null;
            n.elem = above;
            take(OBJECT);
            Decl last = parseFields(n);
            if (accept(METHODS)) {
                last = parseMethods(n, last, D_METHOD);
            }
            if (accept(OVERRIDES)) {
                parseMethods(n, last, D_OVERRIDE);
            }
            take(END);
            holder = outer;
            return n;
        }

        private Decl parseMethods(Node n, Decl behind, int declKind) {
            int outer = line;
            Decl last = behind;
            for (int i = 0; i < TAPE_ROOM && kind == NAME; i++) {
                line = in.lines[at];
                Decl d = told(declKind);
                if (last == null) {
                    n.items = d;
                } else {
                    last.next = d;
                }
                last = d;
                if (declKind == D_METHOD) {
                    d.type = parseSignature();
                    d.use = accept(BECOMES) ? qname() : null;
                } else {
                    take(BECOMES);
                    d.use = qname();
                }
                take(';');
            }
            line = outer;
            return last;
        }

        private Node parseSignature() {
            Node n = makeNode(T_PROCEDURE);
            takeOpening('(');
            if (kind != ')') {
                n.items = parseFormals(n);
            }
            takeClosing(')');
            if (accept(':')) {
                n.elem = parseType();
            }
            if (accept(RAISES)) {
                take('{');
                if (kind != '}') {
                    n.raises = qname();
                    Op last = n.raises;
                    for (int i = 0; i < TAPE_ROOM && accept(','); i++) {
                        last.next = qname();
                        last = last.next;
                    }
                }
                take('}');
            }
            return n;
        }

        private Decl parseFormals(Node n) {
            Decl first = parseGroup(accept(VAR) ? D_VARFORMAL : D_FORMAL, n);
            Decl last = lastOf(first);
            for (int i = 0; i < TAPE_ROOM && accept(';'); i++) {
                last.next = parseGroup(accept(VAR) ? D_VARFORMAL : D_FORMAL, n);
                last = lastOf(last);
            }
            return first;
        }

        // statements

        private boolean beginsStatement() {
            switch (kind) {
                case NAME:
                case EXIT:
                case IF:
                case WHILE:
                case LOOP:
                case FOR:
                case RETURN:
                case RAISE:
                case TRY:
                case LOCK:
                case WAIT:
                case SIGNAL:
                case BROADCAST:
                case JOIN:
                case PUT:
                case TYPECASE:
                    return true;
                default:
                    return false;
            }
        }

        private void parseStatements(Stat part) {
            Stat last = null;
            for (int i = 0; i < TAPE_ROOM && beginsStatement(); i++) {
                Stat s = parseStatement(part);
                if (last == null) {
                    part.parts = s;
                } else {
                    last.next = s;
                }
                last = s;
                take(';');
            }
        }

        private Stat parseStatement(Stat part) {
            int outer = line;
            Stat s = new Stat(kind, in.lines[at], part, body);
            s.level = open[SORT_STATEMENTS];
            if (s.level >= DEEPEST) {
                fail(3);
                return s;
            }
            open[SORT_STATEMENTS]++;
            if (lastStat == null) {
                stats = s;
            } else {
                lastStat.nextOfAll = s;
            }
            lastStat = s;
            line = s.line;
            if (kind == NAME) {
                parseAction(s);
            } else {
                advance();
                parseWorded(s);
            }
            open[SORT_STATEMENTS]--;
            line = outer;
            return s;
        }

        private void parseWorded(Stat s) {
            switch (s.kind) {
                case IF:
                    parseIf(s);
                    break;
                case FOR:
                    parseFor(s);
                    break;
                case TRY:
                    parseTry(s);
                    break;
                case TYPECASE:
                    parseTypecase(s);
                    break;
                case LOOP:
                    parseStatements(makePart(s, null, P_PLAIN));
                    take(END);
                    break;
                case WHILE:
                case LOCK:
                    s.first = parseE(null, false);
                    take(DO);
                    parseStatements(makePart(s, null, P_PLAIN));
                    take(END);
                    break;
                case RETURN:
                    s.first = kind == ';' ? null : parseE(null, false);
                    break;
                case RAISE:
                    s.use = qname();
                    takeOpening('(');
                    s.first = parseE(null, false);
                    takeClosing(')');
                    break;
                case WAIT:
                    s.first = parseE(null, false);
                    take(',');
                    s.second = parseE(null, false);
                    break;
                case EXIT:
                    break;
                default:
                    s.first = parseE(null, false);
            }
        }

        private Stat makePart(Stat s, Stat behind, int role) {
            Stat p = new Stat(role, in.lines[at], s, body);
            if (behind == null) {
                s.parts = p;
            } else {
                behind.next = p;
            }
            return p;
        }

        private void parseIf(Stat s) {
            Stat last = null;
            for (int i = 0; i < TAPE_ROOM && (i == 0 || accept(ELSIF)); i++) {
                last = makePart(s, last, P_PLAIN);
                last.first = parseE(null, false);
                take(THEN);
                parseStatements(last);
            }
            if (accept(ELSE)) {
                parseStatements(makePart(s, last, P_ELSE));
            }
            take(END);
        }

        /** The NAME of a FOR, HANDLER or BRANCH: its place is a slot. */
        private Decl toldInSlot(Stat s, int declKind) {
            Decl d = told(declKind);
            d.type = integer;
            d.offset = SLOTS_EACH * s.level;
            return d;
        }

        private void parseFor(Stat s) {
            s.name = toldInSlot(s, D_FORNAME);
            take(BECOMES);
            s.first = parseE(null, false);
            take(TO);
            s.second = parseE(null, false);
            take(DO);
            parseStatements(makePart(s, null, P_PLAIN));
            take(END);
        }

        private void parseTry(Stat s) {
            Stat last = makePart(s, null, P_PLAIN);
            parseStatements(last);
            if (accept(FINALLY)) {
                s.kind = FINALLY;
                parseStatements(makePart(s, last, P_FINALLY));
                take(END);
                return;
            }
            s.kind = EXCEPT;
            take(EXCEPT);
            for (int i = 0; i < TAPE_ROOM && accept('|'); i++) {
                last = makePart(s, last, P_HANDLER);
                last.use = qname();
                parsePartName(s, last);
                parseStatements(last);
            }
            if (accept(ELSE)) {
                parseStatements(makePart(s, last, P_ELSE));
            }
            take(END);
        }

        private void parseTypecase(Stat s) {
            s.first = parseE(null, false);
            take(OF);
            Stat last = null;
            for (int i = 0; i < TAPE_ROOM && accept('|'); i++) {
                last = makePart(s, last, P_BRANCH);
                last.type = parseType();
                parsePartName(s, last);
                last.name.type = last.type;
                parseStatements(last);
            }
            if (accept(ELSE)) {
                parseStatements(makePart(s, last, P_ELSE));
            }
            take(END);
        }

        private void parsePartName(Stat s, Stat p) {
            takeOpening('(');
            p.name = toldInSlot(s, D_PARTNAME);
            takeClosing(')');
            take(ARROW);
        }

        /** := , a CALL or a FORK. */
        private void parseAction(Stat s) {
            s.kind = BECOMES;
            s.place = parsePlace();
            if (kind == '(') {
                s.kind = '(';
                s.first = s.place;
                s.place = null;
            } else {
                take(BECOMES);
                s.kind = accept(FORK) ? FORK : BECOMES;
                if (kind == NAME || s.kind == FORK) {
                    s.first = parsePlace();
                }
                if (kind == '(' && s.first != null && s.kind == BECOMES) {
                    s.kind = '(';
                }
            }
            if (s.kind == BECOMES) {
                s.first = parseE(s.first, false);
                return;
            }
            takeOpening('(');
            Op last = null;
            for (int i = 0; i < TAPE_ROOM && (i == 0 ? kind != ')' : accept(',')); i++) {
                Op p = new Op(O_PARAMETER, 0, NONE, line);
                p.sub = parseE(null, false);
                if (last == null) {
                    s.parameters = p;
                } else {
                    last.next = p;
                }
                last = p;
            }
            takeClosing(')');
        }

        // expressions: their OPs in the order in which they are done

        private void put(int opKind, int value, Node type) {
            Op op = new Op(opKind, value, NONE, line);
            op.type = type;
            if (tail != null) {
                tail.next = op;
            }
            tail = op;
        }

        /** A list of OPs of its own; `tail` is its last one then. */
        private Op parsePlace() {
            Op first = new Op(NAME, in.values[at], NONE, in.lines[at]);
            tail = first;
            take(NAME);
            for (int i = 0; i < TAPE_ROOM; i++) {
                if (accept('.')) {
                    put('.', in.values[at], null);
                    take(NAME);
                } else if (kind == '[') {
                    takeOpening('[');
                    parseE(null, true);
                    takeClosing(']');
                    put('[', 0, null);
                } else if (accept('^')) {
                    put('^', 0, null);
                } else {
                    break;
                }
            }
            return first;
        }

        /**
         * A list of its own, behind a PLACE that is there (begun), or behind what the list has already (inner).
         * Operators wait until one comes that binds no tighter.
         */
        private Op parseE(Op begun, boolean inner) {
            Op outer = tail;
            Op start = new Op(O_START, 0, NONE, line);
            start.next = begun;
            if (begun == null) {
                tail = start;
            } else {
                put(O_LOAD, 0, null);
            }
            int bottom = waitingTop;
            for (int i = 0; i < TAPE_ROOM; i++) {
                if (i > 0 || begun == null) {
                    parsePrefixes(bottom);
                    parseOperand();
                }
                int binds = binding(kind);
                if (binds == 0) {
                    break;
                }
                putWaiting(bottom, binds == BINDS_RELATION ? binds + 1 : binds);
                if (binds == BINDS_RELATION && lastBinds(bottom) == BINDS_RELATION) {
                    fail(2);
                    break;
                }
                await(kind, binds);
                advance();
            }
            putWaiting(bottom, 0);
            if (inner && outer != null) {
                outer.next = start.next;
            }
            return start.next;
        }

        private void parsePrefixes(int bottom) {
            for (int i = 0; i < TAPE_ROOM && (kind == NOT || kind == '-'); i++) {
                int above = lastBinds(bottom);
                if (kind == '-' ? above == BINDS_NEGATE : above > BINDS_NOT) {
                    fail(2);
                    return;
                }
                if (kind == '-') {
                    await(O_NEGATE, BINDS_NEGATE);
                } else {
                    if (open[SORT_NOTS] >= DEEPEST) {
                        fail(3);
                        return;
                    }
                    open[SORT_NOTS]++;
                    await(NOT, BINDS_NOT);
                }
                advance();
            }
        }

        private void await(int operator, int binds) {
            if (waitingTop < OPERATORS_ROOM) {
                waiting[waitingTop] = operator << 3 | binds;
                waitingTop++;
            }
        }

        /** How tightly the last waiting operator of this E binds, 0 if there is none. */
        private int lastBinds(int bottom) {
            return waitingTop > bottom && waitingTop <= OPERATORS_ROOM ? waiting[waitingTop - 1] & 7 : 0;
        }

        private void putWaiting(int bottom, int binds) {
            for (int i = waitingTop; i > bottom && (waiting[i - 1] & 7) >= binds; i--) {
                waitingTop = i - 1;
                int operator = waiting[waitingTop] >> 3;
                if (operator == NOT) {
                    open[SORT_NOTS]--;
                }
                put(operator, 0, null);
            }
        }

        /** How tightly an operator between two operands binds; 0 if it is none. */
        private static int binding(int operator) {
            switch (operator) {
                case OR:
                    return BINDS_OR;
                case AND:
                    return BINDS_AND;
                case '=':
                case '#':
                case '<':
                case '>':
                case AT_MOST:
                case AT_LEAST:
                    return BINDS_RELATION;
                case '+':
                case '-':
                    return BINDS_SUM;
                case '*':
                case DIV:
                case MOD:
                    return BINDS_PRODUCT;
                default:
                    return 0;
            }
        }

        private void parseOperand() {
            int word = kind;
            switch (word) {
                case NUMBER:
                    put(NUMBER, in.values[at], null);
                    advance();
                    break;
                case TRUE:
                case FALSE:
                case NIL:
                    put(word, word == TRUE ? 1 : 0, null);
                    advance();
                    break;
                case NAME:
                    Op behind = tail;
                    Op place = parsePlace();
                    if (behind != null) {
                        behind.next = place;
                    }
                    put(O_LOAD, 0, null);
                    break;
                case '(':
                    takeOpening('(');
                    parseE(null, true);
                    takeClosing(')');
                    put('(', 0, null);
                    break;
                case NEW:
                case ISTYPE:
                case NARROW:
                    advance();
                    takeOpening('(');
                    if (word != NEW) {
                        parseE(null, true);
                        take(',');
                    }
                    Node t = parseType();
                    put(word, 0, t);
                    takeClosing(')');
                    break;
                default:
                    fail(2);
            }
        }
    }

    /** The first round: what each name means. */
    private static final class Names {
        private final Parser text;
        private int found = NOTHING_FOUND;

        Names(Parser text) {
            this.text = text;
        }

        int judge() {
            for (Decl u = text.units; u != null; u = u.next) {
                judgeUnit(u);
            }
            for (Decl u = text.units; u != null; u = u.next) {
                linkProcedures(u);
            }
            for (Decl u = text.units; u != null; u = u.next) {
                for (Decl d = u.first; d != null; d = d.next) {
                    judgeDeclaration(u, d);
                }
            }
            for (Node n = text.root; n != null; n = n.next) {
                judgeNode(n);
            }
            for (Stat s = text.stats; s != null; s = s.nextOfAll) {
                judgeStatement(s);
            }
            return found == NOTHING_FOUND ? 0 : found;
        }

        private void fault(int code, int line) {
            found = Math.min(found, code + 16 * line);
        }

        /** The first INTERFACE of the name that stands ahead of `u`. */
        private Decl interfaceAhead(Decl u, int name) {
            for (Decl v = text.units; v != null && v != u; v = v.next) {
                if (v.kind == D_INTERFACE && v.name == name) {
                    return v;
                }
            }
            return null;
        }

        private void judgeUnit(Decl u) {
            for (Decl v = text.units; v != null && v != u; v = v.next) {
                if (v.name == u.name && (v.kind == u.kind || v.kind == D_MODULE)) {
                    fault(5, u.nameLine);
                }
            }
            u.mask = 1 << u.number;
            if (u.kind == D_MODULE) {
                u.other = interfaceAhead(u, u.name);
                u.mask |= u.other == null ? 0 : 1 << u.other.number;
            }
            for (Decl d = u.first; d != null && d.kind == D_IMPORT; d = d.next) {
                if (d.name == u.name) {
                    fault(5, d.nameLine);
                }
                d.other = interfaceAhead(u, d.name);
                if (d.other == null) {
                    fault(6, d.nameLine);
                } else {
                    u.mask |= 1 << d.other.number;
                }
            }
        }

        /** A PROCEDURE that a MODULE makes is the one that its INTERFACE tells. */
        private void linkProcedures(Decl u) {
            for (Decl d = u.first; d != null && u.other != null; d = d.next) {
                if (d.kind == D_PROCEDURE) {
                    Decl told = toldBy(u.other, d.name);
                    if (told != null && told.kind == D_PROCEDURE && told.other == null) {
                        told.other = d;
                        d.other = told;
                    }
                }
            }
        }

        private static Decl toldBy(Decl u, int name) {
            for (Decl d = u.first; d != null; d = d.next) {
                if (d.name == name && d.kind != D_IMPORT) {
                    return d;
                }
            }
            return null;
        }

        /** What the name means in the unit: its IMPORTS are the first of its DECLARATIONS. */
        private static Decl knownIn(Decl u, int name) {
            for (Decl d = u.first; d != null; d = d.next) {
                if (d.name == name) {
                    return d;
                }
            }
            return u.other == null ? null : toldBy(u.other, name);
        }

        private void judgeDeclaration(Decl u, Decl d) {
            if (d.kind == D_REVEAL || d.kind == D_HINT) {
                judgeUse(u, d.use, D_TYPE);
                return;
            }
            if (isThere(u.first, d) || isToldByInterface(u, d)) {
                fault(5, d.nameLine);
            }
            if (d.kind != D_PROCEDURE || d.type == null) {
                return;
            }
            for (Decl e = d.first; e != null; e = e.next) {
                if (isThere(d.type.items, e) || isThere(d.first, e)) {
                    fault(5, e.nameLine);
                }
            }
        }

        /** Whether the INTERFACE has the name already, and not for a PROCEDURE that is made here. */
        private static boolean isToldByInterface(Decl u, Decl d) {
            Decl e = u.other == null ? null : toldBy(u.other, d.name);
            return e != null && (e.kind != D_PROCEDURE || d.kind != D_PROCEDURE);
        }

        /** Whether the list has the name of `d` ahead of it (an OVERRIDE's and another's do not meet). */
        private static boolean isThere(Decl list, Decl d) {
            for (Decl e = list; e != null && e != d; e = e.next) {
                if (e.name == d.name && (e.kind == D_OVERRIDE) == (d.kind == D_OVERRIDE)) {
                    return true;
                }
            }
            return false;
        }

        private void judgeNode(Node n) {
            if (n.kind == T_NAMED) {
                judgeUse(n.unit, n.use, D_TYPE);
            }
            for (Op e = n.raises; e != null; e = e.next) {
                judgeUse(n.unit, e, D_EXCEPTION);
            }
            for (Decl d = n.items; d != null; d = d.next) {
                if (isThere(n.items, d)) {
                    fault(5, d.nameLine);
                }
                if (d.use != null) {
                    judgeUse(n.unit, d.use, D_PROCEDURE);
                }
            }
        }

        private void judgeUse(Decl u, Op use, int wanted) {
            if (u == null || use == null) {
                return;
            }
            Decl d = knownIn(u, use.unitName == NONE ? use.name : use.unitName);
            if (d != null && use.unitName != NONE) {
                boolean imported = d.kind == D_IMPORT && d.other != null;
                d = imported ? toldBy(d.other, use.name) : null;
            }
            if (d == null) {
                fault(6, use.line);
            } else if (d.kind != wanted && (wanted != D_TYPE || d.kind != D_OPAQUE)) {
                fault(7, use.line);
            } else {
                use.decl = d;
            }
        }

        private void judgeStatement(Stat s) {
            Decl u = s.decl.unit;
            if (s.use != null) {
                judgeUse(u, s.use, D_EXCEPTION);
            }
            judgePlaces(s, s.place);
            judgePlaces(s, s.first);
            judgePlaces(s, s.second);
            for (Op p = s.parameters; p != null; p = p.next) {
                judgePlaces(s, p.sub);
            }
            for (Stat p = s.parts; p != null; p = p.next) {
                judgePlaces(s, p.first);
                if (p.use != null) {
                    judgeUse(u, p.use, D_EXCEPTION);
                }
            }
        }

        private void judgePlaces(Stat s, Op list) {
            for (Op op = list; op != null; op = op.next) {
                if (op.kind == NAME) {
                    judgePlace(s, op);
                }
            }
        }

        private void judgePlace(Stat s, Op op) {
            Decl d = innermost(s, op.name);
            if (d == null) {
                d = knownIn(s.decl.unit, op.name);
            }
            if (d != null && d.kind == D_IMPORT) {
                Op behind = op.next;
                if (behind == null || behind.kind != '.') {
                    fault(7, op.line);
                    return;
                }
                d = d.other == null ? null : toldBy(d.other, behind.name);
                op.next = behind.next;
            }
            if (d == null) {
                fault(6, op.line);
            } else if (d.kind == D_TYPE || d.kind == D_OPAQUE || d.kind == D_EXCEPTION) {
                fault(7, op.line);
            } else {
                op.decl = d;
            }
        }

        /** The FORMAL, LOCAL or NAME of a FOR, HANDLER or BRANCH that is meant where `s` stands. */
        private static Decl innermost(Stat s, int name) {
            Stat part = s.home;
            for (int i = 0; i <= DEEPEST && part != null; i++) {
                if (part.name != null && part.name.name == name) {
                    return part.name;
                }
                Stat owner = part.home;
                if (owner == null) {
                    break;
                }
                if (owner.kind == FOR && owner.name != null && owner.name.name == name) {
                    return owner.name;
                }
                part = owner.home;
            }
            if (s.decl.kind != D_PROCEDURE || s.decl.type == null) {
                return null;
            }
            for (Decl d = s.decl.type.items; d != null; d = d.next) {
                if (d.name == name) {
                    return d;
                }
            }
            for (Decl d = s.decl.first; d != null; d = d.next) {
                if (d.name == name) {
                    return d;
                }
            }
            return null;
        }
    }

    /** The types of a program, as they are alike and as units see them; the second round. */
    private static final class Types {
        final int tokens;
        final Decl[] unitRow;
        final Decl[] typeRow;
        /** By the numbers of PROCEDUREs, less 1: those that are made. */
        final Decl[] procedureRow;
        /** By shapes: the least TYPE that has it, or NONE. */
        int[] least;
        int globalCells;
        final Node integer;
        final Node bool;
        final Node nil;
        private final Node nodes;
        private final int nodeCount;
        /** The TYPEs that a search has come to. */
        private final Decl[] seen;
        private int found = NOTHING_FOUND;

        Types(Parser text) {
            tokens = text.tokens();
            integer = text.integer;
            bool = text.bool;
            nil = new Node(T_NIL, NONE, 0, null);
            nil.shape = NONE;
            nodes = text.root;
            nodeCount = text.nodeCount();
            int units = 0;
            int types = 0;
            int procedures = 0;
            for (Decl u = text.units; u != null; u = u.next) {
                units++;
                for (Decl d = u.first; d != null; d = d.next) {
                    types += d.kind == D_TYPE || d.kind == D_OPAQUE ? 1 : 0;
                    procedures += d.kind == D_PROCEDURE ? 1 : 0;
                }
            }
            unitRow = new Decl[units];
            typeRow = new Decl[types];
            seen = new Decl[types];
            procedureRow = new Decl[procedures];
            int at = 0;
            for (Decl u = text.units; u != null && at < units; u = u.next) {
                unitRow[at] = u;
                at++;
            }
        }

        void prepare() {
            number();
            for (Node n = nodes; n != null; n = n.next) {
                n.real = replaced(n);
            }
            linkReveals();
            for (Node n = nodes; n != null; n = n.next) {
                n.up = aboveInWhole(n);
            }
            findShapes();
            findViews();
            boolean more = true;
            for (int i = 0; i <= nodeCount && more; i++) {
                more = findCells();
            }
        }

        /** TYPEs, EXCEPTIONs and PROCEDUREs by their DECLARATIONS. */
        private void number() {
            int types = 0;
            int exceptions = 0;
            int procedures = 0;
            for (int u = 0; u < unitRow.length; u++) {
                for (Decl d = unitRow[u].first; d != null; d = d.next) {
                    if ((d.kind == D_TYPE || d.kind == D_OPAQUE) && types < typeRow.length) {
                        d.number = types;
                        typeRow[types] = d;
                        types++;
                    } else if (d.kind == D_EXCEPTION) {
                        d.number = exceptions;
                        exceptions++;
                    } else if (d.kind == D_PROCEDURE && unitRow[u].kind == D_MODULE && d.other != null) {
                        d.number = d.other.number;
                    } else if (d.kind == D_PROCEDURE) {
                        procedures++;
                        d.number = procedures;
                    }
                    if (d.kind == D_PROCEDURE && d.number > 0 && d.number <= procedureRow.length) {
                        procedureRow[d.number - 1] = d;
                    }
                }
            }
        }

        /** What the names of TYPE = lead to; in a ring of names the first TYPE of it. */
        private Node replaced(Node n) {
            Node at = n;
            for (int i = 0; i <= typeRow.length && at.kind == T_NAMED; i++) {
                at = at.use.decl.type;
            }
            if (at.kind != T_NAMED) {
                return at;
            }
            Node first = at;
            Node walk = at.use.decl.type;
            for (int i = 0; i <= typeRow.length && walk != at; i++) {
                if (walk.index < first.index) {
                    first = walk;
                }
                walk = walk.use.decl.type;
            }
            return first;
        }

        private void linkReveals() {
            for (int u = 0; u < unitRow.length; u++) {
                for (Decl d = unitRow[u].first; d != null; d = d.next) {
                    if (d.kind == D_REVEAL || d.kind == D_HINT) {
                        Decl last = revealed(d).own;
                        for (int i = 0; i < TAPE_ROOM && last != null && last.reveal != null; i++) {
                            last = last.reveal;
                        }
                        if (last != null) {
                            last.reveal = d;
                        }
                    }
                }
            }
        }

        /** The type that a REVEAL is of. */
        private static Node revealed(Decl reveal) {
            return reveal.use.decl.type.real;
        }

        /** The LEVEL that an OBJECT type is as the unit sees it (null: with all REVEALs seen), if it sees one. */
        Node levelOf(Decl u, Node t) {
            if (t.kind == T_LEVEL) {
                return t;
            }
            if (t.kind != T_OPAQUE) {
                return null;
            }
            for (Decl r = t.own.reveal; r != null; r = r.reveal) {
                if (r.kind == D_REVEAL && (u == null || (u.mask >> r.unit.number & 1) == 1)) {
                    return r.type;
                }
            }
            return null;
        }

        private Node aboveInWhole(Node t) {
            Node level = levelOf(null, t);
            return level == null ? null : level.elem.real;
        }

        Node above(Decl u, Node t) {
            if (t.kind == T_LEVEL) {
                return t.elem.real;
            }
            if (t.kind == T_OPAQUE && t.views != null && u.number < t.views.length) {
                return t.views[u.number];
            }
            return null;
        }

        private void findViews() {
            for (Node t = nodes; t != null; t = t.next) {
                if (t.kind == T_OPAQUE) {
                    t.views = new Node[unitRow.length];
                    for (int u = 0; u < unitRow.length; u++) {
                        t.views[u] = viewed(unitRow[u], t);
                    }
                }
            }
        }

        /** Above an OPAQUE type as the unit sees it: the SUPER, or the lowest type told that is in its WHOLE CHAIN. */
        private Node viewed(Decl u, Node t) {
            Node level = levelOf(u, t);
            if (level != null) {
                return level.elem.real;
            }
            Node c = t.up;
            for (int i = 0; i < nodeCount && c != null; i++) {
                if (c.shape != t.shape && isToldAbove(u, t, c)) {
                    return c;
                }
                c = c.up;
            }
            return null;
        }

        private static boolean isToldAbove(Decl u, Node t, Node c) {
            if (t.own.bound.real.shape == c.shape) {
                return true;
            }
            for (Decl r = t.own.reveal; r != null; r = r.reveal) {
                if (r.kind == D_HINT && (u.mask >> r.unit.number & 1) == 1 && r.bound.real.shape == c.shape) {
                    return true;
                }
            }
            return false;
        }

        int wholeChain(Node t) {
            if (!isObject(t)) {
                return 0;
            }
            int many = 0;
            for (Node c = t; c != null && many < nodeCount; c = c.up) {
                many++;
            }
            return many;
        }

        int chainSeen(Decl u, Node t) {
            int many = 0;
            for (Node c = t; c != null && many < nodeCount; c = above(u, c)) {
                many++;
            }
            return many;
        }

        // shapes: types are parted until those that are left together differ nowhere

        private void findShapes() {
            int[] heads = new int[nodeCount];
            int[] chains = new int[nodeCount];
            int[] shapes = new int[nodeCount];
            Node[] models = new Node[nodeCount];
            int many = 1;
            boolean more = true;
            for (int round = 0; round <= nodeCount && more; round++) {
                Arrays.fill(heads, NONE);
                int parted = 0;
                for (Node n = nodes; n != null; n = n.next) {
                    if (isOwnType(n)) {
                        int k = modelOf(n, heads, chains, models);
                        if (k == NONE) {
                            k = parted;
                            parted++;
                            models[k] = n;
                            chains[k] = heads[n.shape];
                            heads[n.shape] = k;
                        }
                        shapes[n.index] = k;
                    }
                }
                for (Node n = nodes; n != null; n = n.next) {
                    n.shape = shapes[n.index];
                }
                more = parted > many;
                many = parted;
            }
            least = new int[many];
            Arrays.fill(least, NONE);
            for (int i = typeRow.length - 1; i >= 0; i--) {
                least[typeRow[i].type.real.shape] = i;
            }
        }

        /** Not a name for another type, and not the LEVEL of a REVEAL. */
        private static boolean isOwnType(Node n) {
            return n.real == n && (n.kind != T_LEVEL || n.own == null);
        }

        /** Which of the models with the old shape of `n` is like it, or NONE. */
        private static int modelOf(Node n, int[] heads, int[] chains, Node[] models) {
            int k = heads[n.shape];
            for (int i = 0; i < models.length && k != NONE && !isLike(models[k], n); i++) {
                k = chains[k];
            }
            return k;
        }

        /** Whether two types differ nowhere as far as one look goes, with parts of one shape taken as alike. */
        private static boolean isLike(Node a, Node b) {
            if (a == b) {
                return true;
            }
            if (a.kind != b.kind || a.kind == T_OPAQUE || a.kind == T_NAMED || a.lo != b.lo || a.hi != b.hi) {
                return false;
            }
            if (!isSameElem(a, b)) {
                return false;
            }
            Decl d = a.items;
            Decl e = b.items;
            for (; d != null && e != null && d.kind == e.kind && d.kind != D_OVERRIDE; d = d.next) {
                if (a.kind != T_PROCEDURE && d.name != e.name) {
                    return false;
                }
                if (d.type.real.shape != e.type.real.shape || !isSameProcedure(d.use, e.use)) {
                    return false;
                }
                e = e.next;
            }
            if (d != null && d.kind != D_OVERRIDE || e != null && e.kind != D_OVERRIDE) {
                return false;
            }
            return hasOverrides(d, e) && hasOverrides(e, d) && isWithin(a.raises, b.raises)
                    && isWithin(b.raises, a.raises);
        }

        private static boolean isSameElem(Node a, Node b) {
            if (a.elem == null || b.elem == null) {
                return a.elem == b.elem;
            }
            return a.elem.real.shape == b.elem.real.shape;
        }

        private static boolean isSameProcedure(Op a, Op b) {
            if (a == null || b == null) {
                return a == b;
            }
            return a.decl.number == b.decl.number;
        }

        /** Whether each of the OVERRIDES `d` is one of `e`, too. */
        private static boolean hasOverrides(Decl d, Decl e) {
            for (Decl one = d; one != null; one = one.next) {
                Decl other = e;
                while (other != null && (other.name != one.name || !isSameProcedure(one.use, other.use))) {
                    other = other.next;
                }
                if (other == null) {
                    return false;
                }
            }
            return true;
        }

        /** Whether each EXCEPTION of the SET `a` is in the SET `b`. */
        static boolean isWithin(Op a, Op b) {
            for (Op one = a; one != null; one = one.next) {
                Op other = b;
                while (other != null && other.decl != one.decl) {
                    other = other.next;
                }
                if (other == null) {
                    return false;
                }
            }
            return true;
        }

        /** Whether the FORMALs from `d` and `e` on are alike one by one. */
        private static boolean isSameFormals(Decl formals, Decl others) {
            Decl e = others;
            for (Decl d = formals; d != null; d = d.next) {
                if (e == null || d.kind != e.kind || d.type.real.shape != e.type.real.shape) {
                    return false;
                }
                e = e.next;
            }
            return e == null;
        }

        boolean isBelow(Decl u, Node a, Node b) {
            if (a.shape == b.shape) {
                return true;
            }
            if (a.kind == T_RANGE) {
                return b.kind == T_INTEGER || b.kind == T_RANGE && b.lo <= a.lo && a.hi <= b.hi;
            }
            if (a.kind == T_PROCEDURE) {
                return b.kind == T_PROCEDURE && isSameFormals(a.items, b.items) && isSameElem(a, b)
                        && isWithin(a.raises, b.raises);
            }
            Node c = above(u, a);
            for (int i = 0; i < nodeCount && c != null; i++) {
                if (c.shape == b.shape) {
                    return true;
                }
                c = above(u, c);
            }
            return false;
        }

        /** The nearest FIELD or METHOD of the name from `t` on upwards, as the unit sees it. */
        Decl member(Decl u, Node t, int name) {
            Node c = t;
            for (int i = 0; i < nodeCount && c != null; i++) {
                Node level = levelOf(u, c);
                if (level != null) {
                    for (Decl d = level.items; d != null && d.kind != D_OVERRIDE; d = d.next) {
                        if (d.name == name) {
                            return d;
                        }
                    }
                }
                c = above(u, c);
            }
            return null;
        }

        // CELLS

        /** Finds CELLS of types whose parts have theirs; what holds itself or is wrong never gets any. */
        private boolean findCells() {
            boolean more = false;
            for (Node n = nodes; n != null; n = n.next) {
                if (n.cells == NONE && n.real == n && n.kind != T_NAMED) {
                    n.cells = cellsOf(n);
                    n.firsts = firstsOf(n);
                    more |= n.cells != NONE;
                }
            }
            return more;
        }

        private static int cellsOf(Node n) {
            if (n.kind == T_ARRAY) {
                Node elem = n.elem.real;
                if (n.lo > n.hi || elem.cells == NONE) {
                    return NONE;
                }
                return (int) Math.min(MANY, ((long) n.hi - n.lo + 1) * elem.cells);
            }
            if (n.kind != T_RECORD) {
                return 1;
            }
            long all = 0;
            for (Decl d = n.items; d != null; d = d.next) {
                Node part = d.type.real;
                if (part.cells == NONE) {
                    return NONE;
                }
                d.offset = (int) Math.min(MANY, all);
                all += part.cells;
            }
            return (int) Math.min(MANY, all);
        }

        /** What its CELLS are at first, put together from its parts; null if all are 0, or it has too many. */
        private static int[] firstsOf(Node n) {
            if (n.cells < 1 || n.cells > PARTS_ROOM) {
                return null;
            }
            int[] firsts = null;
            if (n.kind == T_RANGE && (n.lo > 0 || n.hi < 0)) {
                firsts = new int[1];
                firsts[0] = n.lo > 0 ? n.lo : n.hi;
            } else if (n.kind == T_ARRAY && n.elem.real.firsts != null) {
                int[] each = n.elem.real.firsts;
                firsts = new int[n.cells];
                for (int at = 0; at + each.length <= n.cells && each.length > 0; at += each.length) {
                    System.arraycopy(each, 0, firsts, at, each.length);
                }
            } else if (n.kind == T_RECORD) {
                for (Decl d = n.items; d != null; d = d.next) {
                    int[] part = d.type.real.firsts;
                    if (part != null && firsts == null) {
                        firsts = new int[n.cells];
                    }
                    if (part != null && d.offset + part.length <= n.cells) {
                        System.arraycopy(part, 0, firsts, d.offset, part.length);
                    }
                }
            }
            return firsts;
        }

        // the second round

        int judge() {
            for (int u = 0; u < unitRow.length; u++) {
                for (Decl d = unitRow[u].first; d != null; d = d.next) {
                    judgeDeclaration(d);
                }
            }
            for (Node n = nodes; n != null; n = n.next) {
                judgeNode(n);
                if (n.kind == T_LEVEL) {
                    judgeMethods(n);
                }
            }
            return found == NOTHING_FOUND ? 0 : found;
        }

        private void fault(int code, int line) {
            found = Math.min(found, code + 16 * line);
        }

        private void judgeDeclaration(Decl d) {
            switch (d.kind) {
                case D_TYPE:
                    if (isInRing(d) || d.type.real.cells == NONE && holdsItself(d)) {
                        fault(8, d.line);
                    }
                    break;
                case D_OPAQUE:
                    if (levelOf(null, d.type) == null || !isAboveInWhole(d.type, d.bound.real)) {
                        fault(10, d.line);
                    }
                    break;
                case D_REVEAL:
                case D_HINT:
                    judgeReveal(d);
                    break;
                case D_VAR:
                    d.offset = globalCells;
                    globalCells += Math.max(0, d.type.real.cells);
                    if (globalCells > GLOBALS_ROOM) {
                        fault(9, d.line);
                        globalCells = GLOBALS_ROOM + 1;
                    }
                    break;
                case D_PROCEDURE:
                    judgeTold(d);
                    break;
                default:
                    break;
            }
        }

        private void judgeReveal(Decl d) {
            Node t = revealed(d);
            if (t.kind != T_OPAQUE) {
                fault(10, d.line);
            } else if (d.kind == D_HINT) {
                if (!isAboveInWhole(t, d.bound.real)) {
                    fault(10, d.line);
                }
            } else if (levelOf(null, t) != d.type) {
                fault(10, d.line);
            } else if (isInRing(t.own)) {
                fault(8, d.line);
            }
        }

        /** A PROCEDURE that an INTERFACE tells must be made, with an alike SIGNATURE. */
        private void judgeTold(Decl d) {
            if (d.unit.kind == D_MODULE) {
                return;
            }
            if (d.other == null) {
                fault(11, d.line);
            } else if (d.other.type.shape != d.type.shape) {
                fault(11, d.other.line);
            }
        }

        private boolean isAboveInWhole(Node t, Node wanted) {
            if (!isObject(wanted)) {
                return false;
            }
            Node c = t.up;
            for (int i = 0; i < nodeCount && c != null; i++) {
                if (c.shape == wanted.shape && c.shape != t.shape) {
                    return true;
                }
                c = c.up;
            }
            return false;
        }

        /** Whether names and what is above lead from a TYPE or OPAQUE type back to it. */
        private boolean isInRing(Decl d) {
            Decl e = aboveByName(d);
            for (int i = 0; i <= typeRow.length && e != null; i++) {
                if (e == d) {
                    return true;
                }
                e = aboveByName(e);
            }
            return false;
        }

        private Decl aboveByName(Decl d) {
            Node n = d.kind == D_OPAQUE ? levelOf(null, d.type) : d.type;
            if (n != null && n.kind == T_LEVEL) {
                n = n.elem;
            }
            return n != null && n.kind == T_NAMED ? n.use.decl : null;
        }

        /** Whether RECORDs, ARRAYs and names lead from the TYPE back to it. */
        private boolean holdsItself(Decl d) {
            int mark = d.number + 1;
            int many = 1;
            if (seen.length > 0) {
                seen[0] = d;
            }
            for (int i = 0; i < many && i < seen.length; i++) {
                for (Node n = seen[i].held; n != null; n = n.nextHeld) {
                    Decl e = n.use.decl;
                    if (e == d) {
                        return true;
                    }
                    if (e.mask != mark && many < seen.length) {
                        e.mask = mark;
                        seen[many] = e;
                        many++;
                    }
                }
            }
            return false;
        }

        private void judgeNode(Node n) {
            if ((n.kind == T_RANGE || n.kind == T_ARRAY) && n.lo > n.hi) {
                fault(9, n.line);
            }
            if (n.kind == T_ARRAY && (long) n.hi - n.lo >= ARRAY_ROOM) {
                fault(9, n.line);
            }
            if (hasParts(n) && n.cells > PARTS_ROOM) {
                fault(9, n.line);
            }
            if (n.kind == T_PROCEDURE && n.elem != null && hasParts(n.elem.real)) {
                fault(9, n.line);
            }
            if (n.kind == T_LEVEL && !isObject(n.elem.real)) {
                fault(10, n.line);
            }
        }

        private void judgeMethods(Node level) {
            Node own = level.own == null ? level : revealed(level.own);
            Decl u = level.unit;
            for (Decl d = level.items; d != null; d = d.next) {
                if (d.kind == D_METHOD) {
                    d.number = own.shape;
                    if (d.use != null && !isFitting(d.use.decl, d.type, own, u)) {
                        fault(11, d.line);
                    }
                } else if (d.kind == D_OVERRIDE) {
                    d.other = member(u, level.elem.real, d.name);
                    if (d.other == null || d.other.kind != D_METHOD
                            || !isFitting(d.use.decl, d.other.type, own, u)) {
                        fault(11, d.line);
                    }
                }
            }
        }

        private boolean isFitting(Decl procedure, Node method, Node own, Decl u) {
            Node signature = procedure.type;
            Decl first = signature.items;
            return first != null && first.kind == D_FORMAL && isBelow(u, own, first.type.real)
                    && isSameFormals(first.next, method.items) && isSameElem(signature, method)
                    && isWithin(signature.raises, method.raises);
        }

        // what a program without FAULTS needs to run

        void layOut() {
            for (Node n = nodes; n != null; n = n.next) {
                int all = 0;
                Node c = n.real == n ? n : null;
                for (int i = 0; i < nodeCount && c != null; i++) {
                    all += fieldCells(c);
                    c = c.up;
                }
                n.size = all;
            }
            for (Node n = nodes; n != null; n = n.next) {
                Node level = isOwnType(n) ? levelOf(null, n) : null;
                int at = n.up == null ? 0 : n.up.size;
                for (Decl d = level == null ? null : level.items; d != null && d.kind == D_FIELD; d = d.next) {
                    d.offset = at;
                    at += d.type.real.cells;
                }
            }
            for (int i = 0; i < procedureRow.length; i++) {
                if (procedureRow[i] != null) {
                    layOutCall(procedureRow[i]);
                }
            }
        }

        private int fieldCells(Node t) {
            Node level = levelOf(null, t);
            int all = 0;
            for (Decl d = level == null ? null : level.items; d != null && d.kind == D_FIELD; d = d.next) {
                all += d.type.real.cells;
            }
            return all;
        }

        private static void layOutCall(Decl procedure) {
            int at = 0;
            for (Decl d = procedure.type.items; d != null; d = d.next) {
                d.offset = at;
                at += d.kind == D_VARFORMAL ? 1 : d.type.real.cells;
            }
            procedure.offset = at;
            for (Decl d = procedure.first; d != null; d = d.next) {
                d.offset = at;
                at += d.type.real.cells;
            }
            procedure.cells = at;
        }
    }

    /** The third round, types in STATEMENTS, and the fourth, EXCEPTIONs. */
    private static final class Checker {
        private final Types types;
        private Decl unit;
        /** The types of the values that are there; null: it has no type. */
        private final Node[] stack = new Node[VALUES_ROOM];
        private int top;
        private int line;
        /** The METHOD that ends the PLACE of a CALL. */
        private Decl method;
        private int found = NOTHING_FOUND;

        Checker(Types types) {
            this.types = types;
        }

        private void fault(int code) {
            found = Math.min(found, code + 16 * line);
        }

        int judgeTypes(Stat all) {
            for (Stat s = all; s != null; s = s.nextOfAll) {
                unit = s.decl.unit;
                line = s.line;
                judgeStatement(s);
            }
            return found == NOTHING_FOUND ? 0 : found;
        }

        private void judgeStatement(Stat s) {
            boolean call = s.kind == '(' || s.kind == FORK;
            s.type = s.place == null ? null : typeOf(s.place, false);
            Node value = typeOf(s.first, call);
            s.name = call ? method : s.name;
            Node second = typeOf(s.second, false);
            switch (s.kind) {
                case BECOMES:
                    s.type = target(s.place, s.type);
                    needAssignable(value, s.type);
                    break;
                case '(':
                case FORK:
                    s.type = target(s.place, s.type);
                    judgeCall(s, value);
                    break;
                case EXIT:
                    if (!isInLoop(s)) {
                        fault(14);
                    }
                    break;
                case RETURN:
                    judgeReturn(s, value);
                    break;
                case TYPECASE:
                    judgeTypecase(s, value);
                    break;
                default:
                    needKind(value, kindOfE(s.kind));
                    needKind(second, s.kind == WAIT ? T_CONDITION : T_INTEGER);
            }
            for (Stat p = s.parts; p != null; p = p.next) {
                needKind(typeOf(p.first, false), T_BOOLEAN);
            }
        }

        /** What a STATEMENT's (first) E is to be. */
        private static int kindOfE(int statement) {
            switch (statement) {
                case WHILE:
                    return T_BOOLEAN;
                case LOCK:
                case WAIT:
                    return T_MUTEX;
                case SIGNAL:
                case BROADCAST:
                    return T_CONDITION;
                case JOIN:
                    return T_THREAD;
                default:
                    return T_INTEGER;
            }
        }

        /** RANGEs are INTEGERs; NIL is of each kind of REFERENCE. */
        private void needKind(Node t, int kind) {
            if (t == null || t.kind == kind) {
                return;
            }
            boolean range = kind == T_INTEGER && t.kind == T_RANGE;
            boolean nil = t.kind == T_NIL && kind != T_INTEGER && kind != T_BOOLEAN;
            if (!range && !nil) {
                fault(12);
            }
        }

        private static boolean isInLoop(Stat s) {
            Stat owner = s.home.home;
            for (int i = 0; i <= DEEPEST && owner != null; i++) {
                if (owner.kind == WHILE || owner.kind == LOOP || owner.kind == FOR) {
                    return true;
                }
                owner = owner.home.home;
            }
            return false;
        }

        private void judgeReturn(Stat s, Node value) {
            if (s.decl.kind != D_PROCEDURE) {
                fault(14);
                return;
            }
            Node result = s.decl.type.elem;
            if ((s.first == null) != (result == null)) {
                fault(12);
            } else if (result != null) {
                needAssignable(value, result.real);
            }
        }

        private void judgeTypecase(Stat s, Node value) {
            if (value != null && value.kind != T_NIL && !isObject(value)) {
                fault(12);
            }
            for (Stat p = s.parts; p != null; p = p.next) {
                if (p.type != null) {
                    needRelated(value, p.type.real);
                }
            }
        }

        /** Both OBJECT types, one below the other. */
        private void needRelated(Node value, Node t) {
            if (!isObject(t)) {
                fault(12);
            } else if (value != null && value.kind != T_NIL) {
                if (!isObject(value) || !types.isBelow(unit, value, t) && !types.isBelow(unit, t, value)) {
                    fault(12);
                }
            }
        }

        private static boolean isNumber(Node t) {
            return t.kind == T_INTEGER || t.kind == T_RANGE;
        }

        private void needAssignable(Node value, Node place) {
            if (value == null || place == null || isNumber(value) && isNumber(place)) {
                return;
            }
            if (value.kind == T_NIL) {
                if (!isReference(place)) {
                    fault(12);
                }
            } else if (!types.isBelow(unit, value, place)
                    && !(isObject(place) && isObject(value) && types.isBelow(unit, place, value))) {
                fault(12);
            }
        }

        // PLACEs and CALLs

        /** Whether the OPs are the NAME of a FOR or PROCEDURE and nothing more. */
        private static boolean isFixedName(Op list) {
            if (list == null || list.kind != NAME || list.decl == null) {
                return false;
            }
            boolean alone = list.next == null || list.next.next == null && isLoad(list.next);
            return alone && (list.decl.kind == D_FORNAME || list.decl.kind == D_PROCEDURE);
        }

        private static boolean isLoad(Op op) {
            return op.kind == O_LOAD || op.kind == O_KEEP;
        }

        /** The type of a PLACE to which something goes. */
        private Node target(Op place, Node t) {
            if (isFixedName(place)) {
                fault(14);
                return null;
            }
            return t;
        }

        private void judgeCall(Stat s, Node called) {
            Node signature = called != null && called.kind == T_PROCEDURE ? called : null;
            if (called != null && signature == null) {
                fault(12);
            }
            if (s.kind == FORK) {
                needKind(s.type, T_THREAD);
            } else if (signature != null) {
                s.use = signature.raises;
                if (s.place != null && signature.elem == null) {
                    fault(12);
                } else if (s.place != null) {
                    needAssignable(signature.elem.real, s.type);
                }
            }
            Decl formal = signature == null ? null : signature.items;
            Op p = s.parameters;
            while (p != null && (formal != null || signature == null)) {
                Node value = typeOf(p.sub, false);
                if (formal != null) {
                    judgeParameter(p.sub, value, formal);
                    formal = formal.next;
                }
                p = p.next;
            }
            if (p != null || formal != null) {
                fault(13);
            }
            formal = signature == null || s.kind != FORK ? null : signature.items;
            for (; formal != null; formal = formal.next) {
                if (formal.kind == D_VARFORMAL) {
                    fault(14);
                }
            }
        }

        private void judgeParameter(Op list, Node value, Decl formal) {
            if (formal.kind != D_VARFORMAL) {
                needAssignable(value, formal.type.real);
                return;
            }
            Op last = list;
            for (Op op = list; op != null; op = op.next) {
                last = op;
            }
            if (last == null || !isLoad(last)) {
                fault(12);
            } else if (isFixedName(list)) {
                fault(14);
            } else {
                last.kind = O_KEEP;
                if (value != null && value.shape != formal.type.real.shape) {
                    fault(12);
                }
            }
        }

        // the types of E's and PLACEs

        private void push(Node t) {
            if (top < VALUES_ROOM) {
                stack[top] = t;
                top++;
            }
        }

        private Node pop() {
            if (top <= 0) {
                return null;
            }
            top--;
            return stack[top];
        }

        /** The type of the OPs, null if it has none; only a CALL's PLACE may end with a METHOD. */
        private Node typeOf(Op list, boolean called) {
            top = 0;
            method = null;
            for (Op op = list; op != null; op = op.next) {
                switch (op.kind) {
                    case NUMBER:
                        push(types.integer);
                        break;
                    case TRUE:
                    case FALSE:
                        push(types.bool);
                        break;
                    case NIL:
                        push(types.nil);
                        break;
                    case NAME:
                        judgeName(op);
                        break;
                    case '.':
                        judgeMember(op, pop(), called && op.next == null);
                        break;
                    case '[':
                    case '^':
                        judgeInside(op);
                        break;
                    case O_LOAD:
                        Node t = pop();
                        op.kind = t != null && hasParts(t) ? O_KEEP : O_LOAD;
                        push(t);
                        break;
                    case '=':
                    case '#':
                        judgeEqual(pop(), pop());
                        break;
                    case NEW:
                        judgeNew(op.type.real);
                        break;
                    case ISTYPE:
                    case NARROW:
                        needRelated(pop(), op.type.real);
                        push(op.kind == ISTYPE ? types.bool : op.type.real);
                        break;
                    case '(':
                    case O_KEEP:
                        break;
                    default:
                        judgeOperator(op.kind);
                }
            }
            return pop();
        }

        private void judgeName(Op op) {
            if (op.decl == null) {
                push(null);
                return;
            }
            if (op.decl.kind == D_PROCEDURE && op.next != null && op.next.kind == O_LOAD) {
                op.next.kind = O_KEEP;
            }
            push(op.decl.type.real);
        }

        private void judgeMember(Op op, Node t, boolean calledNext) {
            Decl d = null;
            if (t != null && t.kind == T_RECORD) {
                d = t.items;
                while (d != null && d.name != op.name) {
                    d = d.next;
                }
            } else if (t != null && isObject(t)) {
                d = types.member(unit, t, op.name);
                op.kind = O_INSIDE;
            }
            op.decl = d;
            if (d == null) {
                if (t != null) {
                    fault(12);
                }
                push(null);
            } else if (d.kind == D_FIELD) {
                push(d.type.real);
            } else if (calledNext) {
                op.kind = O_METHOD;
                method = d;
                push(d.type.real);
            } else {
                fault(14);
                push(null);
            }
        }

        /** [ E ] behind an ARRAY, ^ behind a REF. */
        private void judgeInside(Op op) {
            int wanted = op.kind == '[' ? T_ARRAY : T_REF;
            if (wanted == T_ARRAY) {
                needKind(pop(), T_INTEGER);
            }
            Node t = pop();
            needKind(t, wanted);
            op.type = t;
            push(t != null && t.kind == wanted ? t.elem.real : null);
        }

        private void judgeNew(Node t) {
            boolean hidden = t.kind == T_OPAQUE && types.levelOf(unit, t) == null;
            boolean made = isObject(t) || t.kind == T_REF || t.kind == T_MUTEX || t.kind == T_CONDITION;
            if (hidden || !made) {
                fault(12);
            }
            push(hidden || !made ? null : t);
        }

        /** Operators of BOOLEANs alone or INTEGERs alone. */
        private void judgeOperator(int operator) {
            boolean logic = operator == OR || operator == AND || operator == NOT;
            int wanted = logic ? T_BOOLEAN : T_INTEGER;
            needKind(pop(), wanted);
            if (operator != NOT && operator != O_NEGATE) {
                needKind(pop(), wanted);
            }
            boolean order = operator == '<' || operator == '>' || operator == AT_MOST || operator == AT_LEAST;
            push(logic || order ? types.bool : types.integer);
        }

        private void judgeEqual(Node a, Node b) {
            push(types.bool);
            if (a == null || b == null || isNumber(a) && isNumber(b)) {
                return;
            }
            boolean nilA = a.kind == T_NIL;
            boolean nilB = b.kind == T_NIL;
            boolean fits = a.kind == T_BOOLEAN && b.kind == T_BOOLEAN;
            if ((nilA || isReference(a)) && (nilB || isReference(b))) {
                fits = nilA || nilB || types.isBelow(unit, a, b) || types.isBelow(unit, b, a);
            }
            if (!fits) {
                fault(12);
            }
        }

        // the fourth round

        int judgeExceptions(Stat all) {
            for (Stat s = all; s != null; s = s.nextOfAll) {
                line = s.line;
                for (Op e = s.use; e != null; e = e.next) {
                    judgeLeaving(s, e);
                }
                if (s.kind == EXCEPT) {
                    judgeHandlers(s);
                }
            }
            return found == NOTHING_FOUND ? 0 : found;
        }

        private void judgeHandlers(Stat s) {
            for (Stat p = s.parts; p != null; p = p.next) {
                for (Stat q = s.parts; q != p && q != null; q = q.next) {
                    if (p.use != null && q.use != null && p.use.decl == q.use.decl) {
                        line = p.use.line;
                        fault(15);
                    }
                }
            }
        }

        private void judgeLeaving(Stat s, Op exception) {
            Stat part = s.home;
            for (int i = 0; i <= DEEPEST && part.home != null; i++) {
                Stat owner = part.home;
                if (owner.kind == EXCEPT && part == owner.parts && handlerOf(owner, exception.decl.number) != null) {
                    return;
                }
                part = owner.home;
            }
            if (s.decl.kind != D_PROCEDURE) {
                return;
            }
            Op named = s.decl.type.raises;
            while (named != null && named.decl != exception.decl) {
                named = named.next;
            }
            if (named == null) {
                fault(15);
            }
        }
    }

    /** The HANDLER of the TRY that names the EXCEPTION of the number, else its ELSE, else null. */
    private static Stat handlerOf(Stat tried, int exception) {
        for (Stat p = tried.parts; p != null; p = p.next) {
            if (p.kind == P_ELSE || p.use != null && p.use.decl.number == exception) {
                return p;
            }
        }
        return null;
    }

    /** A THREAD of a run. */
    private static final class Strand {
        final int number;
        int state;
        /** The value of the MUTEX, CONDITION or THREAD that it WAITS for. */
        int waitsFor;
        /** In a CONDITION's row: its MUTEX, and since which STEP. */
        int mutex;
        int since;
        /** The ACT that it is ahead of, or in. */
        Stat stat;
        /** A loop that has been looked at before. */
        boolean again;
        /** On the way to the next ACT: the PART, and the STATEMENT of it that comes next (null: its end). */
        Stat part;
        Stat at;
        /** What leaves STATEMENTs on that way: RAISE, RETURN, EXIT or 0. */
        int leaving;
        /** Of a RAISE; or the FAULT of a thread that FAILED. */
        int exception;
        int amount;
        int faultLine;
        /** How many calls stand open, and their CELLS. */
        int calls;
        int cells;
        final int[] row = new int[FRAMES_ROOM];
        final int[] slots = new int[SLOTS_A_CALL * (CALLS_ROOM + 1)];
        /** Of each open call: its CALL, where its RESULT goes, where its CELLS begin. */
        final Stat[] callers = new Stat[CALLS_ROOM + 1];
        final int[] targets = new int[CALLS_ROOM + 1];
        final int[] bases = new int[CALLS_ROOM + 1];

        Strand(int number) {
            this.number = number;
        }

        boolean hasEnded() {
            return state >= OVER;
        }

        int base() {
            return calls >= 0 && calls <= CALLS_ROOM ? bases[calls] : 0;
        }

        int slotAt(int offset) {
            return calls * SLOTS_A_CALL + offset;
        }

        void setSlot(int offset, int value) {
            int i = slotAt(offset);
            if (i >= 0 && i < slots.length) {
                slots[i] = value;
            }
        }

        int slot(int offset) {
            int i = slotAt(offset);
            return i >= 0 && i < slots.length ? slots[i] : 0;
        }

        void goBehind(Stat s) {
            part = s.home;
            at = s.next;
        }

        void goInto(Stat p) {
            part = p;
            at = p.parts;
        }

        void end(int how) {
            state = how;
            calls = 0;
            cells = 0;
            waitsFor = 0;
            part = null;
            at = null;
        }
    }

    /** A run of a program: its threads, CELLS and OUTPUT. */
    private static final class Machine {
        private Types types;
        private final int[] globals = new int[GLOBALS_ROOM];
        private final int[] heap = new int[HEAP_ROOM];
        /** Of each thing: where its CELLS begin (the next one's: where they end), its type, who holds it. */
        private final int[] starts = new int[THINGS_ROOM + 2];
        private final Node[] kinds = new Node[THINGS_ROOM + 1];
        private final int[] holders = new int[THINGS_ROOM + 1];
        private int things;
        private final Strand[] strands = new Strand[THREADS_ROOM];
        private int made;
        private int seed;
        private int steps;
        private final int[] numbers = new int[OUTPUT_ROOM];
        private int outputs;
        private final int[] values = new int[VALUES_ROOM];
        private int top;
        /** The parameters of the call that comes. */
        private final int[] passed = new int[FORMALS_ROOM * PARTS_ROOM];
        /** Made by the STEP that is done, and not yet ahead of an ACT. */
        private Strand forked;
        private int fault;
        private int faultLine;

        void clear() {
            types = null;
            made = 0;
        }

        boolean begun() {
            return made > 0;
        }

        void startAnew(Types program, int first) {
            types = program;
            seed = first;
            steps = 0;
            outputs = 0;
            things = 0;
            starts[1] = 0;
            fault = 0;
            for (int u = 0; u < types.unitRow.length; u++) {
                for (Decl d = types.unitRow[u].first; d != null; d = d.next) {
                    if (d.kind == D_VAR) {
                        fill(globals, d.offset, d.type.real);
                    }
                }
            }
            made = 0;
            Strand k = newStrand();
            goToUnit(k, 0);
            goOn(k);
        }

        /** The values that the CELLS of a place have at first. */
        private static void fill(int[] row, int at, Node t) {
            if (at < 0 || t.cells < 0 || at > row.length - t.cells) {
                return;
            }
            if (t.firsts == null) {
                Arrays.fill(row, at, at + t.cells, 0);
            } else if (t.firsts.length == t.cells) {
                System.arraycopy(t.firsts, 0, row, at, t.cells);
            }
        }

        /** The STATEMENTS of the first MODULE from the unit on; without one the thread is over. */
        private void goToUnit(Strand k, int from) {
            for (int u = from; u < types.unitRow.length; u++) {
                if (types.unitRow[u].body != null) {
                    k.goInto(types.unitRow[u].body);
                    return;
                }
            }
            k.end(OVER);
        }

        private Strand newStrand() {
            Strand k = strands[made];
            if (k == null) {
                k = new Strand(made);
                strands[made] = k;
            }
            made++;
            k.end(READY);
            k.stat = null;
            k.again = false;
            k.leaving = 0;
            k.exception = NONE;
            k.amount = 0;
            k.faultLine = 0;
            k.bases[0] = 0;
            return k;
        }

        // STEPs

        /** One STEP; false if no thread is READY. */
        boolean doStep() {
            Strand k = chosen();
            if (k == null || k.stat == null) {
                return false;
            }
            steps++;
            fault = 0;
            forked = null;
            faultLine = k.stat.line;
            if (k.state == READY) {
                act(k, k.stat);
            } else {
                stopWaiting(k);
            }
            if (fault != 0) {
                endByFault(k);
                return true;
            }
            if (forked != null) {
                goOn(forked);
            }
            if (k.state == READY) {
                goOn(k);
            }
            return true;
        }

        /** The thread whose STEP is next, null if none is READY. */
        private Strand chosen() {
            int ready = countReady();
            if (ready == 0) {
                return null;
            }
            seed = seed * 1103515245 + 12345;
            int left = (seed >>> 16) % ready;
            for (int i = 0; i < made; i++) {
                if (isReady(strands[i])) {
                    if (left == 0) {
                        return strands[i];
                    }
                    left--;
                }
            }
            return null;
        }

        private void stopWaiting(Strand k) {
            int mutex = k.state == WAITS_MUTEX ? k.waitsFor : 0;
            k.state = READY;
            k.waitsFor = 0;
            if (mutex != 0) {
                takeMutex(k, k.stat, mutex);
            } else {
                k.goBehind(k.stat);
            }
        }

        private int countReady() {
            int ready = 0;
            for (int i = 0; i < made; i++) {
                ready += isReady(strands[i]) ? 1 : 0;
            }
            return ready;
        }

        private boolean isReady(Strand k) {
            if (k.state == WAITS_MUTEX) {
                return holderOf(k.waitsFor) == NONE;
            }
            if (k.state == WAITS_THREAD) {
                return isOver(k.waitsFor - 1);
            }
            return k.state == READY;
        }

        private boolean isOver(int thread) {
            return thread >= 0 && thread < made && strands[thread].hasEnded();
        }

        private int holderOf(int v) {
            return v > 0 && v <= things ? holders[v] : NONE;
        }

        private void hold(int v, int thread) {
            if (v > 0 && v <= things) {
                holders[v] = thread;
            }
        }

        private void endByFault(Strand k) {
            k.end(FAILED);
            k.exception = fault;
            k.amount = 0;
            k.faultLine = faultLine;
            fault = 0;
        }

        private void fail(int code) {
            if (fault == 0) {
                fault = code;
            }
        }

        /** Behind a WAIT it goes on, at a LOCK the STATEMENTS are next. */
        private void takeMutex(Strand k, Stat s, int mutex) {
            hold(mutex, k.number);
            if (s.kind == LOCK) {
                k.setSlot(SLOTS_EACH * s.level, mutex);
                k.goInto(s.parts);
            } else {
                k.goBehind(s);
            }
        }

        private void act(Strand k, Stat s) {
            switch (s.kind) {
                case BECOMES:
                    int place = worth(k, s.place);
                    int value = worth(k, s.first);
                    assign(k, place, s.type, value);
                    k.goBehind(s);
                    break;
                case '(':
                case FORK:
                    call(k, s);
                    break;
                case EXIT:
                    leave(k, s, 0);
                    break;
                case RETURN:
                case RAISE:
                    leave(k, s, s.first == null ? 0 : worth(k, s.first));
                    break;
                case IF:
                    doIf(k, s);
                    break;
                case WHILE:
                    goIf(k, s, worth(k, s.first) != 0);
                    break;
                case LOOP:
                    goIf(k, s, true);
                    break;
                case FOR:
                    doFor(k, s);
                    break;
                case TYPECASE:
                    doTypecase(k, s);
                    break;
                default:
                    doThreads(k, s);
            }
        }

        private void goIf(Strand k, Stat s, boolean inside) {
            if (inside) {
                k.goInto(s.parts);
            } else {
                k.goBehind(s);
            }
        }

        private void doIf(Strand k, Stat s) {
            for (Stat p = s.parts; p != null && fault == 0; p = p.next) {
                if (p.kind == P_ELSE || worth(k, p.first) != 0) {
                    k.goInto(p);
                    return;
                }
            }
            k.goBehind(s);
        }

        private void doFor(Strand k, Stat s) {
            int at = s.name.offset;
            int value;
            if (k.again) {
                value = k.slot(at);
                goIf(k, s, value < k.slot(at + 1));
                k.setSlot(at, value + 1);
                return;
            }
            value = worth(k, s.first);
            int last = worth(k, s.second);
            k.setSlot(at, value);
            k.setSlot(at + 1, last);
            goIf(k, s, value <= last);
        }

        private void doTypecase(Strand k, Stat s) {
            int value = worth(k, s.first);
            for (Stat p = s.parts; p != null && fault == 0; p = p.next) {
                if (p.kind == P_ELSE) {
                    k.goInto(p);
                    return;
                }
                if (isOf(value, p.type.real)) {
                    k.setSlot(p.name.offset, value);
                    k.goInto(p);
                    return;
                }
            }
            fail(F_TYPECASE);
        }

        /** A RAISE, RETURN or EXIT sets out. */
        private void leave(Strand k, Stat s, int amount) {
            if (s.kind == RETURN && s.first != null) {
                holdAgainst(amount, s.decl.type.elem.real);
            }
            k.leaving = s.kind;
            k.amount = amount;
            k.exception = s.kind == RAISE ? s.use.decl.number : NONE;
            k.faultLine = s.line;
            k.part = s.home;
        }

        private void doThreads(Strand k, Stat s) {
            int v = worth(k, s.first);
            int second = s.kind == WAIT ? worth(k, s.second) : v;
            if (s.kind != PUT && (v == 0 || second == 0)) {
                fail(F_NIL);
            }
            if (fault != 0) {
                return;
            }
            if (s.kind == LOCK && holderOf(v) == NONE) {
                takeMutex(k, s, v);
            } else if (s.kind == LOCK) {
                k.state = WAITS_MUTEX;
                k.waitsFor = v;
            } else if (s.kind == WAIT) {
                waitInRow(k, v, second);
            } else if (s.kind == JOIN && !isOver(v - 1)) {
                k.state = WAITS_THREAD;
                k.waitsFor = v;
            } else {
                if (s.kind == PUT && outputs < OUTPUT_ROOM) {
                    numbers[outputs] = v;
                    outputs++;
                } else if (s.kind == SIGNAL || s.kind == BROADCAST) {
                    wake(v, s.kind == BROADCAST);
                }
                k.goBehind(s);
            }
        }

        private void waitInRow(Strand k, int mutex, int condition) {
            if (holderOf(mutex) != k.number) {
                fail(F_NOT_HELD);
                return;
            }
            hold(mutex, NONE);
            k.state = WAITS_ROW;
            k.waitsFor = condition;
            k.mutex = mutex;
            k.since = steps;
        }

        /** The first one of the CONDITION's row, or all, WAIT for their MUTEX. */
        private void wake(int condition, boolean all) {
            Strand first = null;
            for (int i = 0; i < made; i++) {
                Strand k = strands[i];
                if (k.state == WAITS_ROW && k.waitsFor == condition) {
                    if (all) {
                        k.state = WAITS_MUTEX;
                        k.waitsFor = k.mutex;
                    } else if (first == null || k.since < first.since) {
                        first = k;
                    }
                }
            }
            if (first != null) {
                first.state = WAITS_MUTEX;
                first.waitsFor = first.mutex;
            }
        }

        // calls

        private void call(Strand k, Stat s) {
            int target = s.place == null ? 0 : worth(k, s.place);
            int number = calledProcedure(k, s);
            if (fault == 0 && (number < 1 || number > types.procedureRow.length)) {
                fail(F_NO_PROCEDURE);
            }
            if (fault != 0) {
                return;
            }
            Decl procedure = types.procedureRow[number - 1];
            if (procedure == null) {
                return;
            }
            passParameters(k, s, procedure);
            boolean forks = s.kind == FORK;
            boolean room = procedure.cells <= FRAMES_ROOM - (forks ? 0 : k.cells);
            if (!room || (forks ? made >= THREADS_ROOM : k.calls >= CALLS_ROOM)) {
                fail(F_ROOM);
            }
            if (fault != 0) {
                return;
            }
            if (!forks) {
                openCall(k, s, target, procedure);
                return;
            }
            forked = newStrand();
            openCall(forked, null, 0, procedure);
            store(k, target, forked.number + 1);
            k.goBehind(s);
        }

        /** The number of the PROCEDURE that is called; of a METHOD the object is the first parameter. */
        private int calledProcedure(Strand k, Stat s) {
            int value = worth(k, s.first);
            if (fault == 0 && s.name != null && value == 0) {
                fail(F_NIL);
            }
            if (fault != 0) {
                return 0;
            }
            if (s.name != null) {
                passed[0] = value;
                return methodOf(value, s.name);
            }
            boolean named = s.first.decl != null && s.first.decl.kind == D_PROCEDURE;
            return named ? value : fetch(k, value);
        }

        private int methodOf(int object, Decl method) {
            Node t = object > 0 && object <= things ? kinds[object] : null;
            for (; t != null; t = t.up) {
                Node level = types.levelOf(null, t);
                for (Decl d = level == null ? null : level.items; d != null; d = d.next) {
                    Decl meant = d.kind == D_OVERRIDE ? d.other : d;
                    if (d.kind != D_FIELD && isSameMethod(meant, method)) {
                        return d.use == null ? 0 : d.use.decl.number;
                    }
                }
            }
            return 0;
        }

        private static boolean isSameMethod(Decl a, Decl b) {
            return a.name == b.name && a.number == b.number;
        }

        private void passParameters(Strand k, Stat s, Decl procedure) {
            Decl formal = procedure.type.items;
            if (s.name != null && formal != null) {
                formal = formal.next;
            }
            for (Op p = s.parameters; p != null && formal != null && fault == 0; p = p.next) {
                int value = worth(k, p.sub);
                Node t = formal.type.real;
                if (formal.kind == D_FORMAL && hasParts(t)) {
                    copyCells(rowOf(k, value), value & ROW_MASK, passed, formal.offset, t.cells);
                } else if (formal.offset < passed.length) {
                    if (formal.kind == D_FORMAL) {
                        holdAgainst(value, t);
                    }
                    passed[formal.offset] = value;
                }
                formal = formal.next;
            }
        }

        private void openCall(Strand k, Stat s, int target, Decl procedure) {
            k.calls++;
            k.callers[k.calls] = s;
            k.targets[k.calls] = target;
            k.bases[k.calls] = k.cells;
            copyCells(passed, 0, k.row, k.cells, procedure.offset);
            for (Decl d = procedure.first; d != null; d = d.next) {
                fill(k.row, k.cells + d.offset, d.type.real);
            }
            k.cells += procedure.cells;
            k.goInto(procedure.body);
        }

        /** Ends the innermost call; answers its CALL, null if it was the thread's first one. */
        private Stat closeCall(Strand k) {
            if (k.calls < 1 || k.calls > CALLS_ROOM) {
                return null;
            }
            Stat caller = k.callers[k.calls];
            k.cells = k.bases[k.calls];
            k.calls--;
            return caller;
        }

        // from one ACT to the next one

        private void goOn(Strand k) {
            k.again = false;
            for (int i = 0; i < FAR && k.part != null && fault == 0; i++) {
                if (k.leaving != 0) {
                    passOut(k);
                } else if (k.at == null) {
                    passEnd(k);
                } else if (k.at.kind == EXCEPT || k.at.kind == FINALLY) {
                    k.goInto(k.at.parts);
                } else {
                    k.stat = k.at;
                    return;
                }
            }
            if (fault != 0) {
                endByFault(k);
            }
        }

        /** Behind the last STATEMENT of a PART. */
        private void passEnd(Strand k) {
            Stat part = k.part;
            Stat owner = part.home;
            if (owner == null) {
                endBody(k, part.decl);
                return;
            }
            k.goBehind(owner);
            switch (owner.kind) {
                case WHILE:
                case LOOP:
                case FOR:
                    k.at = owner;
                    k.again = true;
                    break;
                case LOCK:
                    hold(k.slot(SLOTS_EACH * owner.level), NONE);
                    break;
                case FINALLY:
                    if (part == owner.parts) {
                        goFinally(k, owner);
                    } else {
                        goFromFinally(k, owner);
                    }
                    break;
                default:
                    break;
            }
        }

        private void endBody(Strand k, Decl body) {
            if (body.kind == D_MODULE) {
                goToUnit(k, body.number + 1);
            } else if (body.type.elem != null) {
                faultLine = body.endLine;
                fail(F_NO_RETURN);
            } else {
                goToCaller(k, closeCall(k));
            }
        }

        private void goToCaller(Strand k, Stat caller) {
            if (caller == null) {
                k.end(OVER);
            } else {
                k.goBehind(caller);
            }
        }

        /** Does FINALLY's STATEMENTS next, and keeps what was on its way. */
        private void goFinally(Strand k, Stat tried) {
            int at = SLOTS_EACH * tried.level;
            k.setSlot(at, k.leaving);
            k.setSlot(at + 1, k.amount);
            k.setSlot(at + 2, k.exception);
            k.setSlot(at + 3, k.faultLine);
            k.leaving = 0;
            k.goInto(tried.parts.next);
        }

        private void goFromFinally(Strand k, Stat tried) {
            int at = SLOTS_EACH * tried.level;
            k.leaving = k.slot(at);
            k.amount = k.slot(at + 1);
            k.exception = k.slot(at + 2);
            k.faultLine = k.slot(at + 3);
        }

        /** One PART outward with a RAISE, RETURN or EXIT. */
        private void passOut(Strand k) {
            Stat part = k.part;
            Stat owner = part.home;
            if (owner == null) {
                leaveBody(k);
                return;
            }
            k.goBehind(owner);
            switch (owner.kind) {
                case WHILE:
                case LOOP:
                case FOR:
                    k.leaving = k.leaving == EXIT ? 0 : k.leaving;
                    break;
                case LOCK:
                    hold(k.slot(SLOTS_EACH * owner.level), NONE);
                    break;
                case FINALLY:
                    if (part == owner.parts) {
                        goFinally(k, owner);
                    }
                    break;
                case EXCEPT:
                    if (part == owner.parts && k.leaving == RAISE) {
                        goToHandler(k, owner);
                    }
                    break;
                default:
                    break;
            }
        }

        private void goToHandler(Strand k, Stat tried) {
            Stat p = handlerOf(tried, k.exception);
            if (p == null) {
                return;
            }
            if (p.name != null) {
                k.setSlot(p.name.offset, k.amount);
            }
            k.leaving = 0;
            k.goInto(p);
        }

        private void leaveBody(Strand k) {
            Stat caller = closeCall(k);
            if (k.leaving == RAISE) {
                if (caller == null) {
                    k.end(RAISED);
                } else {
                    k.part = caller.home;
                }
                return;
            }
            k.leaving = 0;
            goToCaller(k, caller);
            if (caller != null && caller.place != null) {
                faultLine = caller.line;
                int value = holdAgainst(k.amount, caller.type);
                if (fault == 0) {
                    store(k, k.targets[k.calls + 1], value);
                }
            }
        }

        // CELLS and values

        private int[] rowOf(Strand k, int place) {
            switch (place >>> ROW_SHIFT) {
                case ROW_HEAP:
                    return heap;
                case ROW_FRAMES:
                    return k.row;
                case ROW_SLOTS:
                    return k.slots;
                default:
                    return globals;
            }
        }

        private int fetch(Strand k, int place) {
            int[] row = rowOf(k, place);
            int i = place & ROW_MASK;
            return i < row.length ? row[i] : 0;
        }

        private void store(Strand k, int place, int value) {
            int[] row = rowOf(k, place);
            int i = place & ROW_MASK;
            if (i < row.length) {
                row[i] = value;
            }
        }

        private static void copyCells(int[] from, int source, int[] to, int target, int many) {
            if (source >= 0 && target >= 0 && many > 0 && source <= from.length - many && target <= to.length - many) {
                System.arraycopy(from, source, to, target, many);
            }
        }

        private void assign(Strand k, int place, Node t, int value) {
            if (fault != 0) {
                return;
            }
            if (hasParts(t)) {
                copyCells(rowOf(k, value), value & ROW_MASK, rowOf(k, place), place & ROW_MASK, t.cells);
                return;
            }
            holdAgainst(value, t);
            if (fault == 0) {
                store(k, place, value);
            }
        }

        private int holdAgainst(int value, Node t) {
            if (t.kind == T_RANGE && (value < t.lo || value > t.hi)) {
                fail(F_RANGE);
            } else if (isObject(t) && !isOf(value, t)) {
                fail(F_TYPE);
            }
            return value;
        }

        /** Whether the object is of the type; NIL is. */
        private boolean isOf(int object, Node t) {
            Node c = object > 0 && object <= things ? kinds[object] : null;
            while (c != null && c.shape != t.shape) {
                c = c.up;
            }
            return c != null || object == 0;
        }

        // E's and PLACEs: a PLACE is worth where it is, what has many CELLS, too

        private int worth(Strand k, Op list) {
            top = 0;
            for (Op op = list; op != null && fault == 0; op = op.next) {
                switch (op.kind) {
                    case NUMBER:
                    case TRUE:
                    case FALSE:
                    case NIL:
                        push(op.name);
                        break;
                    case NAME:
                        push(placeOf(k, op.decl));
                        break;
                    case '.':
                        push(pop() + op.decl.offset);
                        break;
                    case O_INSIDE:
                        push(insideOf(fetch(k, pop())) + op.decl.offset);
                        break;
                    case '^':
                        push(insideOf(fetch(k, pop())));
                        break;
                    case '[':
                        pushElement(op.type);
                        break;
                    case O_METHOD:
                    case O_LOAD:
                        push(fetch(k, pop()));
                        break;
                    case O_KEEP:
                    case '(':
                        break;
                    case NEW:
                        push(makeThing(op.type.real));
                        break;
                    case ISTYPE:
                        push(isOf(pop(), op.type.real) ? 1 : 0);
                        break;
                    case NARROW:
                        push(holdAgainst(pop(), op.type.real));
                        break;
                    case NOT:
                        push(1 - pop());
                        break;
                    case O_NEGATE:
                        pushNumber(-(long) pop());
                        break;
                    default:
                        pushNumber(operate(op.kind, pop(), pop()));
                }
            }
            return pop();
        }

        private void push(int value) {
            if (top < VALUES_ROOM) {
                values[top] = value;
                top++;
            }
        }

        private int pop() {
            if (top <= 0) {
                return 0;
            }
            top--;
            return values[top];
        }

        private int placeOf(Strand k, Decl d) {
            switch (d.kind) {
                case D_PROCEDURE:
                    return d.number;
                case D_FORMAL:
                case D_LOCAL:
                    return (ROW_FRAMES << ROW_SHIFT) + k.base() + d.offset;
                case D_VARFORMAL:
                    int i = k.base() + d.offset;
                    return i >= 0 && i < k.row.length ? k.row[i] : 0;
                case D_FORNAME:
                case D_PARTNAME:
                    return (ROW_SLOTS << ROW_SHIFT) + k.slotAt(d.offset);
                default:
                    return d.offset;
            }
        }

        /** Where the CELLS of a thing begin. */
        private int insideOf(int v) {
            if (v <= 0 || v > things) {
                fail(F_NIL);
                return 0;
            }
            return (ROW_HEAP << ROW_SHIFT) + starts[v];
        }

        private void pushElement(Node array) {
            int i = pop();
            int place = pop();
            if (i < array.lo || i > array.hi) {
                fail(F_INDEX);
                push(place);
            } else {
                push(place + (i - array.lo) * array.elem.real.cells);
            }
        }

        private void pushNumber(long value) {
            if (value != (int) value) {
                fail(F_OVERFLOW);
            }
            push((int) value);
        }

        /** Of two values, the last one first. */
        private long operate(int operator, int b, int a) {
            switch (operator) {
                case OR:
                    return a | b;
                case AND:
                    return a & b;
                case '=':
                    return a == b ? 1 : 0;
                case '#':
                    return a != b ? 1 : 0;
                case '<':
                    return a < b ? 1 : 0;
                case '>':
                    return a > b ? 1 : 0;
                case AT_MOST:
                    return a <= b ? 1 : 0;
                case AT_LEAST:
                    return a >= b ? 1 : 0;
                case '+':
                    return (long) a + b;
                case '-':
                    return (long) a - b;
                case '*':
                    return (long) a * b;
                default:
                    break;
            }
            if (b == 0) {
                fail(F_DIVISOR);
                return 0;
            }
            return operator == DIV ? Math.floorDiv((long) a, (long) b) : Math.floorMod((long) a, (long) b);
        }

        private int makeThing(Node t) {
            int cells = 1;
            Node content = null;
            if (t.kind == T_REF) {
                content = t.elem.real;
                cells = content.cells;
            } else if (isObject(t)) {
                cells = t.size;
            }
            int start = starts[things + 1];
            if (things >= THINGS_ROOM || cells > HEAP_ROOM - start) {
                fail(F_ROOM);
                return 0;
            }
            things++;
            kinds[things] = t;
            holders[things] = NONE;
            starts[things + 1] = start + cells;
            Arrays.fill(heap, start, start + cells, 0);
            if (content != null) {
                fill(heap, start, content);
            }
            for (Node c = isObject(t) ? t : null; c != null; c = c.up) {
                Node level = types.levelOf(null, c);
                for (Decl d = level == null ? null : level.items; d != null && d.kind == D_FIELD; d = d.next) {
                    fill(heap, start + d.offset, d.type.real);
                }
            }
            return things;
        }

        // what is told of a run

        int figure(int what) {
            if (made == 0) {
                return 0;
            }
            switch (what) {
                case 5:
                    return howItIs();
                case 6:
                    return steps;
                case 7:
                    return made;
                case 8:
                    return countOver();
                case 9:
                    return things;
                case 10:
                    return starts[things + 1];
                case 11:
                    return countCallCells();
                case 12:
                    return outputs;
                default:
                    return countHeld();
            }
        }

        private int howItIs() {
            if (countOver() == made) {
                return 2;
            }
            return countReady() == 0 ? 3 : 1;
        }

        private int countOver() {
            int over = 0;
            for (int i = 0; i < made; i++) {
                over += strands[i].hasEnded() ? 1 : 0;
            }
            return over;
        }

        private int countCallCells() {
            int cells = 0;
            for (int i = 0; i < made; i++) {
                cells += strands[i].cells;
            }
            return cells;
        }

        private int countHeld() {
            int held = 0;
            for (int v = 1; v <= things; v++) {
                held += holders[v] != NONE ? 1 : 0;
            }
            return held;
        }

        int outputAt(int i) {
            return made > 0 && i >= 0 && i < outputs ? numbers[i] : 0;
        }

        int globalAt(int i) {
            return made > 0 && i >= 0 && i < types.globalCells && i < GLOBALS_ROOM ? globals[i] : 0;
        }

        int threadTold(int t, int what) {
            if (t < 0 || t >= made) {
                return NONE;
            }
            Strand k = strands[t];
            boolean ready = isReady(k);
            switch (what) {
                case 0:
                    return ready ? READY : k.state;
                case 1:
                    if (k.hasEnded()) {
                        return k.state == OVER ? 0 : k.faultLine;
                    }
                    return k.stat == null ? 0 : k.stat.line;
                case 2:
                    return k.calls;
                case 3:
                    return ready ? 0 : k.waitsFor;
                case 4:
                    return k.state == RAISED || k.state == FAILED ? k.exception : NONE;
                case 5:
                    return k.state == RAISED ? k.amount : 0;
                default:
                    return NONE;
            }
        }

        int thingTold(int v, int what) {
            if (made == 0 || v < 1 || v > things) {
                return NONE;
            }
            Node t = kinds[v];
            switch (what) {
                case 0:
                    return isObject(t) || t.kind == T_REF ? types.least[t.shape] : NONE;
                case 1:
                    return starts[v + 1] - starts[v];
                case 2:
                    if (t.kind == T_MUTEX) {
                        return holders[v];
                    }
                    return t.kind == T_CONDITION ? countRow(v) : NONE;
                default:
                    return NONE;
            }
        }

        private int countRow(int condition) {
            int many = 0;
            for (int i = 0; i < made; i++) {
                many += strands[i].state == WAITS_ROW && strands[i].waitsFor == condition ? 1 : 0;
            }
            return many;
        }

        int cellOfThing(int v, int i) {
            if (made == 0 || v < 1 || v > things || i < 0 || i >= starts[v + 1] - starts[v]) {
                return 0;
            }
            return heap[starts[v] + i];
        }
    }
}
