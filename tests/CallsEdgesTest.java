/** Promises 1 to 16: what each call answers at its own boundaries (NONE, 0 if there is none, a refused call, another what). */
final class CallsEdgesTest {
    private static final Tell T = new Tell();
    private static final int NONE = LevelUnits.NONE;
    private static final int[] STRANGE = {-1, -2, Integer.MIN_VALUE, Integer.MAX_VALUE, 1 << 16, -(1 << 16)};

    public static void main(String[] args) {
        newObject();
        feed();
        back();
        read();
        readAgain();
        count();
        alike();
        below();
        type();
        sees();
        begin();
        runBounds();
        runFewer();
        whatThrows();
        output();
        cell();
        thread();
        threadStates();
        thing();
        inside();
        T.end("CallsEdgesTest");
    }

    private static boolean begins(LevelUnits x, int seed) {
        try {
            x.begin(seed);
            return true;
        } catch (IllegalStateException e) {
            return false;
        }
    }

    /** 1 IllegalArgumentException, 2 IllegalStateException, 0 nothing. */
    private static int thrown(LevelUnits x, int n) {
        try {
            x.run(n);
            return 0;
        } catch (IllegalArgumentException e) {
            return 1;
        } catch (IllegalStateException e) {
            return 2;
        }
    }

    /** What calls answer without a program, and so without a run. */
    private static void noProgram(LevelUnits x) {
        for (int what = 0; what <= 13; what++) {
            if (what != 3) {
                T.due("count(" + what + ") without a program", x.count(what), 0);
            }
        }
        for (int i = -1; i <= 1; i++) {
            T.due("alike without a program", x.alike(i, 0), NONE);
            T.due("below without a program", x.below(0, i, 0), NONE);
            T.due("type without a program", x.type(i, 0), NONE);
            T.due("sees without a program", x.sees(0, i), NONE);
        }
        T.due("begin without a program", begins(x, 1) ? 1 : 0, 0);
        noRun(x);
    }

    private static void noRun(LevelUnits x) {
        for (int what = 5; what <= 13; what++) {
            T.due("count(" + what + ") without a run", x.count(what), 0);
        }
        T.due("run(0) without a run", thrown(x, 0), 2);
        T.due("run(2000) without a run", thrown(x, 2000), 2);
        T.due("run(-1) without a run", thrown(x, -1), 1);
        T.due("run(2001) without a run", thrown(x, 2001), 1);
        for (int i = -1; i <= 2; i++) {
            T.due("output without a run", x.output(i), 0);
            T.due("cell without a run", x.cell(i), 0);
            T.due("inside without a run", x.inside(i, 0), 0);
            for (int what = -1; what <= 6; what++) {
                T.due("thread without a run", x.thread(i, what), NONE);
                T.due("thing without a run", x.thing(i, what), NONE);
            }
        }
    }

    private static void newObject() {
        LevelUnits x = new LevelUnits();
        T.due("count(3)", x.count(3), 0);
        noProgram(x);
        T.due("NONE", NONE, -1);
    }

    /** "Twenty bytes come behind the tape, the highest of each int first: how many it has; NONE, and nothing comes, if it would have more than 6,000." */
    private static void feed() {
        LevelUnits x = new LevelUnits();
        // MODU LE\nM; BEG IN!
        T.due("feed", x.feed(0x4D4F4455, 0x4C450A4D, 0x3B204245, 0x47494E0A, 0x50555437), 20);
        T.due("feed", x.feed(0x20202020, 0x3B20454E, 0x44204D2E, 0x20202020, 0x2020200A), 40);
        // "PUT7" is a NAME that nobody knows, in line 3; ";" can't stand behind it
        T.due("read", x.read(), 2 + 16 * 3);
        x.feed(0x4D4F4455, 0x4C450A4D, 0x3B204245, 0x47494E0A, 0x50555420);
        x.feed(0x373B454E, 0x44204D2E, 0x20202020, 0x20202020, 0x20202020);
        T.due("read", x.read(), 0);
        T.due("count(0)", x.count(0), 10);
        // a byte of 128 and more, in each place
        int[] shifts = {24, 16, 8, 0};
        for (int at = 0; at < 20; at++) {
            int[] w = new int[5];
            for (int i = 0; i < 20; i++) {
                w[i / 4] |= (i == at ? 0xC0 : i < at ? 0x0A : 0x20) << shifts[i % 4];
            }
            T.due("feed", x.feed(w[0], w[1], w[2], w[3], w[4]), 20);
            T.due("read", x.read(), 1 + 16 * (at + 1));
        }
        // to the last of the 6,000
        int sp = 0x20202020;
        int nl = 0x0A0A0A0A;
        for (int i = 1; i <= 299; i++) {
            T.due("feed", x.feed(sp, sp, sp, sp, sp), 20 * i);
        }
        x.back(1);
        T.due("feed", x.feed(nl, nl, nl, nl, nl), 5999);
        T.due("feed of one too many", x.feed(nl, nl, nl, nl, nl), NONE);
        T.due("count(3)", x.count(3), 5999);
        x.back(18);
        T.due("feed of one too many", x.feed(nl, nl, nl, nl, nl), NONE);
        T.due("count(3)", x.count(3), 5981);
        x.back(1);
        T.due("feed", x.feed(nl, nl, nl, nl, nl), 6000);
        T.due("feed of twenty too many", x.feed(nl, nl, nl, nl, nl), NONE);
        T.due("count(3)", x.count(3), 6000);
        // what was refused has not come: one line and 20 more
        T.due("read", x.read(), 2 + 16 * (1 + 1 + 20));
        T.due("feed", x.feed(sp, sp, sp, sp, sp), 20);
    }

    /** "The last n bytes of the tape go: how many it has; NONE, and none go, if it has less, or n is below 0." */
    private static void back() {
        LevelUnits x = new LevelUnits();
        T.due("back(0)", x.back(0), 0);
        T.due("back(1)", x.back(1), NONE);
        T.due("back(-1)", x.back(-1), NONE);
        Tell.feed(x, "INTERFACE A; END A.!?");
        T.due("back(22)", x.back(22), NONE);
        T.due("count(3)", x.count(3), 21);
        for (int n : STRANGE) {
            T.due("back(" + n + ")", x.back(n), NONE);
        }
        T.due("back(0)", x.back(0), 21);
        T.due("back(2)", x.back(2), 19);
        T.due("read", x.read(), 0);
        Tell.feed(x, "INTERFACE A; END A.");
        T.due("back(1)", x.back(1), 18);
        T.due("read", x.read(), 2 + 16);
        Tell.feed(x, "abcdefghij");
        T.due("back(11)", x.back(11), NONE);
        T.due("back(10)", x.back(10), 0);
        T.due("back(1)", x.back(1), NONE);
        // what comes behind is read, not what has gone
        Tell.feed(x, "INTERFACE A; END B");
        x.back(1);
        Tell.feed(x, "A.");
        T.due("read", x.read(), 0);
    }

    /** "The tape's text becomes the program, the tape is empty then: 0; or its FAULT and 16 * its line (there is no program then). No run has begun." */
    private static void read() {
        String[] texts = {"!", "INTERFACE A; END A. ;", "MODULE M; BEGIN x := 1; END M.", "MODULE M; TYPE a = a; BEGIN END M.", "MODULE M; BEGIN PUT TRUE; END M.",
            "MODULE M; EXCEPTION e; PROCEDURE p () = BEGIN RAISE e(1); END p; BEGIN END M."};
        int[] faults = {1, 2, 6, 8, 12, 15};
        for (int i = 0; i < texts.length; i++) {
            LevelUnits x = T.running("MODULE M; TYPE t = INTEGER; VAR v : [1 .. 2]; BEGIN v := 2; PUT v; LOOP END; END M.", 1);
            x.run(5);
            Tell.feed(x, texts[i]);
            T.due("read of " + texts[i], x.read(), faults[i] + 16);
            T.due("count(3)", x.count(3), 0);
            noProgram(x);
            Tell.feed(x, "\n\n" + texts[i]);
            T.due("read of " + texts[i], x.read(), faults[i] + 48);
        }
    }

    private static void readAgain() {
        LevelUnits x = T.running("MODULE M; TYPE t = INTEGER; VAR v : [1 .. 2]; VAR o : ROOT; BEGIN v := 2; PUT v; o := NEW(ROOT); LOOP END; END M.", 1);
        x.run(5);
        // feeding and going back change nothing but the tape
        Tell.feed(x, "INTERFACE A; TYPE u = ROOT; TYPE v = u; END A. MODULE B; VAR z : ROOT; BEGIN END B.");
        T.due("count(2)", x.count(2), 1);
        T.due("count(6)", x.count(6), 5);
        T.due("output(0)", x.output(0), 2);
        T.due("read", x.read(), 0);
        T.due("count(1)", x.count(1), 2);
        T.due("count(2)", x.count(2), 2);
        T.due("count(3)", x.count(3), 0);
        T.due("count(4)", x.count(4), 1);
        noRun(x);
        x.begin(1);
        T.due("cell(0)", x.cell(0), 0);
        T.due("thing(1, 1)", x.thing(1, 1), NONE);
        // an empty tape is no text
        T.due("read", x.read(), 2 + 16);
        noProgram(x);
    }

    /** "0 to 2 and 4 are 0 without a program, 6 to 13 before begin(). NONE for another what." */
    private static void count() {
        LevelUnits x = T.reading("INTERFACE A; TYPE t = ARRAY [1 .. 2] OF INTEGER; TYPE u <: ROOT; VAR v, w : t; END A.\nMODULE A; REVEAL u = OBJECT END; VAR z : u; VAR e : RECORD END; BEGIN END A.\n", 0);
        int[] due = {tokens("INTERFACE A ; TYPE t = ARRAY [ 1 .. 2 ] OF INTEGER ; TYPE u <: ROOT ; VAR v , w : t ; END A . MODULE A ; REVEAL u = OBJECT END ; VAR z : u ; VAR e : RECORD END ; BEGIN END A ."), 2, 2, 0, 5};
        for (int what = 0; what < due.length; what++) {
            T.due("count(" + what + ")", x.count(what), due[what]);
        }
        noRun(x);
        for (int what : STRANGE) {
            T.due("count(" + what + ")", x.count(what), NONE);
        }
        T.due("count(14)", x.count(14), NONE);
        x.begin(1);
        int[] begun = {2, 0, 1, 1, 0, 0, 0, 0, 0};
        for (int what = 5; what <= 13; what++) {
            T.due("count(" + what + ")", x.count(what), begun[what - 5]);
        }
        for (int what : STRANGE) {
            T.due("count(" + what + ")", x.count(what), NONE);
        }
        T.due("count(14)", x.count(14), NONE);
        x = T.running("MODULE M; VAR t : THREAD; VAR m, n : MUTEX; VAR r : REF ARRAY [1 .. 7] OF INTEGER; PROCEDURE p (a, b : INTEGER) = VAR c : INTEGER; BEGIN LOCK n DO LOOP END; END; END p; PROCEDURE q () = BEGIN END q;"
                + " BEGIN m := NEW(MUTEX); n := NEW(MUTEX); r := NEW(REF ARRAY [1 .. 7] OF INTEGER); PUT 5; PUT 6; t := FORK q(); LOCK m DO t := FORK p(1, 2); t := FORK p(3, 4); LOOP END; END; END M.", 1);
        x.run(200);
        int[] going = {1, 200, 4, 1, 3, 9, 6, 2, 2};
        for (int what = 5; what <= 13; what++) {
            T.due("count(" + what + ")", x.count(what), going[what - 5]);
        }
    }

    private static int tokens(String apart) {
        return apart.split(" ").length;
    }

    private static LevelUnits types() {
        return T.reading("INTERFACE A;\nTYPE a = INTEGER; TYPE b = OBJECT END;\nTYPE c = b OBJECT END; END A. MODULE B;\n\nTYPE d = INTEGER; BEGIN END B.", 0);
    }

    /** "NONE if there is none such". */
    private static void alike() {
        LevelUnits x = types();
        for (int i = 0; i < 4; i++) {
            for (int j = 0; j < 4; j++) {
                T.due("alike(" + i + ", " + j + ")", x.alike(i, j), i == j || i + j == 3 && i * j == 0 ? 1 : 0);
            }
            for (int n : STRANGE) {
                T.due("alike(" + i + ", " + n + ")", x.alike(i, n), NONE);
                T.due("alike(" + n + ", " + i + ")", x.alike(n, i), NONE);
            }
            T.due("alike(" + i + ", 4)", x.alike(i, 4), NONE);
            T.due("alike(4, " + i + ")", x.alike(4, i), NONE);
        }
        T.due("alike(4, 4)", x.alike(4, 4), NONE);
    }

    private static void below() {
        LevelUnits x = types();
        T.due("below(0, 2, 1)", x.below(0, 2, 1), 1);
        T.due("below(1, 2, 1)", x.below(1, 2, 1), 1);
        T.due("below(1, 1, 2)", x.below(1, 1, 2), 0);
        T.due("below(1, 3, 0)", x.below(1, 3, 0), 1);
        T.due("below(2, 0, 0)", x.below(2, 0, 0), NONE);
        T.due("below(0, 4, 0)", x.below(0, 4, 0), NONE);
        T.due("below(0, 0, 4)", x.below(0, 0, 4), NONE);
        T.due("below(0, 4, 4)", x.below(0, 4, 4), NONE);
        for (int n : STRANGE) {
            T.due("below(" + n + ", 0, 0)", x.below(n, 0, 0), NONE);
            T.due("below(0, " + n + ", 0)", x.below(0, n, 0), NONE);
            T.due("below(0, 0, " + n + ")", x.below(0, 0, n), NONE);
        }
    }

    /** "0 its unit, 1 the line where its DECLARATION begins, 2 its kind, names replaced, 3 its CELLS, 4 of an OBJECT type how many are in its WHOLE CHAIN, 0 of others, 5 the least TYPE that is alike. NONE for another what, or if there is none such." */
    private static void type() {
        LevelUnits x = types();
        int[][] due = {{0, 2, 0, 1, 0, 0}, {0, 2, 11, 1, 2, 1}, {0, 3, 11, 1, 3, 2}, {1, 5, 0, 1, 0, 0}};
        for (int i = 0; i < 4; i++) {
            for (int what = 0; what < 6; what++) {
                T.due("type(" + i + ", " + what + ")", x.type(i, what), due[i][what]);
            }
            T.due("type(" + i + ", 6)", x.type(i, 6), NONE);
            for (int n : STRANGE) {
                T.due("type(" + i + ", " + n + ")", x.type(i, n), NONE);
                T.due("type(" + n + ", " + i + ")", x.type(n, i), NONE);
            }
        }
        for (int what = 0; what < 6; what++) {
            T.due("type(4, " + what + ")", x.type(4, what), NONE);
        }
        // where the DECLARATION begins; the kinds
        x = T.reading("INTERFACE A; TYPE\na\n=\nINTEGER;\nTYPE b = BOOLEAN; TYPE c = [0 .. 1]; TYPE d = ARRAY [0 .. 1] OF c; TYPE e = RECORD END; TYPE f = REF e; TYPE g = PROCEDURE (); TYPE h = MUTEX; TYPE i = CONDITION; TYPE j = THREAD;"
                + " TYPE k = ROOT; TYPE l = OBJECT END;\nTYPE\nm\n<: l; TYPE n = m; TYPE o = k; TYPE p = n OBJECT END; TYPE q = a; END A. MODULE A; REVEAL m = l OBJECT END; BEGIN END A.", 0);
        int[] kinds = {0, 1, 2, 3, 4, 5, 6, 7, 8, 9, 10, 11, 12, 12, 10, 11, 0};
        int[] lines = {1, 5, 5, 5, 5, 5, 5, 5, 5, 5, 5, 5, 6, 8, 8, 8, 8};
        int[] chains = {0, 0, 0, 0, 0, 0, 0, 0, 0, 0, 1, 2, 3, 3, 1, 4, 0};
        int[] least = {0, 1, 2, 3, 4, 5, 6, 7, 8, 9, 10, 11, 12, 12, 10, 15, 0};
        for (int i = 0; i < kinds.length; i++) {
            T.due("type(" + i + ", 1)", x.type(i, 1), lines[i]);
            T.due("type(" + i + ", 2)", x.type(i, 2), kinds[i]);
            T.due("type(" + i + ", 4)", x.type(i, 4), chains[i]);
            T.due("type(" + i + ", 5)", x.type(i, 5), least[i]);
        }
    }

    /** "NONE if there is no such unit or TYPE, or it is no OBJECT type." */
    private static void sees() {
        LevelUnits x = types();
        int[] due = {NONE, 2, 3, NONE, NONE};
        for (int u = -1; u <= 2; u++) {
            for (int i = 0; i < due.length; i++) {
                T.due("sees(" + u + ", " + i + ")", x.sees(u, i), u < 0 || u > 1 ? NONE : due[i]);
            }
        }
        for (int n : STRANGE) {
            T.due("sees(" + n + ", 1)", x.sees(n, 1), NONE);
            T.due("sees(0, " + n + ")", x.sees(0, n), NONE);
        }
        x = T.reading("INTERFACE A; TYPE r = ROOT; TYPE f = REF ROOT; TYPE o <: ROOT; TYPE p <: o; END A. MODULE A; REVEAL o = OBJECT END; REVEAL p = o OBJECT END; BEGIN END A.", 0);
        T.due("sees(0, 0)", x.sees(0, 0), 1);
        T.due("sees(0, 1)", x.sees(0, 1), NONE);
        T.due("sees(0, 2)", x.sees(0, 2), 2);
        T.due("sees(0, 3)", x.sees(0, 3), 3);
    }

    /** "A run begins anew: thread 0 is ahead of its first ACT." */
    private static void begin() {
        LevelUnits x = T.reading("MODULE M; VAR v : [3 .. 9]; VAR t : THREAD; VAR m : MUTEX; VAR r : REF INTEGER; PROCEDURE p () = BEGIN LOCK m DO LOOP END; END; END p; BEGIN\nm := NEW(MUTEX); r := NEW(REF INTEGER); r^ := 5; t := FORK p(); v := 8; PUT v; LOCK m DO LOOP END; END; END M.", 0);
        for (int seed : new int[] {0, 1, -1, Integer.MIN_VALUE, Integer.MAX_VALUE, 1}) {
            x.begin(seed);
            int[] begun = {1, 0, 1, 0, 0, 0, 0, 0, 0};
            for (int what = 5; what <= 13; what++) {
                T.due("count(" + what + ")", x.count(what), begun[what - 5]);
            }
            T.due("cell(0)", x.cell(0), 3);
            T.due("cell(1)", x.cell(1), 0);
            T.due("cell(3)", x.cell(3), 0);
            T.due("output(0)", x.output(0), 0);
            T.due("thread(0, 0)", x.thread(0, 0), 0);
            T.due("thread(0, 1)", x.thread(0, 1), 2);
            T.due("thread(1, 0)", x.thread(1, 0), NONE);
            T.due("thing(1, 2)", x.thing(1, 2), NONE);
            T.due("inside(2, 0)", x.inside(2, 0), 0);
            T.due("run(300)", x.run(300), 300);
            T.due("count(7)", x.count(7), 2);
            T.due("count(9)", x.count(9), 2);
            T.due("count(13)", x.count(13), 1);
            T.due("cell(0)", x.cell(0), 8);
            T.due("output(0)", x.output(0), 8);
        }
        // behind a run that has ended, too
        x = T.running("MODULE M; EXCEPTION e; BEGIN PUT 1; RAISE e(3); END M.", 1);
        x.run(2000);
        T.due("thread(0, 0)", x.thread(0, 0), 5);
        x.begin(1);
        T.due("thread(0, 0)", x.thread(0, 0), 0);
        T.due("thread(0, 4)", x.thread(0, 4), NONE);
        T.due("thread(0, 5)", x.thread(0, 5), 0);
        T.due("run(2000)", x.run(2000), 2);
    }

    /** "IllegalArgumentException: n is not 0 .. 2000. IllegalStateException: no run has begun." */
    private static void runBounds() {
        LevelUnits x = T.running("MODULE M; BEGIN LOOP END; END M.", 1);
        T.due("run(0)", x.run(0), 0);
        T.due("run(1)", x.run(1), 1);
        T.due("run(1999)", x.run(1999), 1999);
        T.due("run(2000)", x.run(2000), 2000);
        T.due("run(-1)", thrown(x, -1), 1);
        T.due("run(2001)", thrown(x, 2001), 1);
        for (int n : STRANGE) {
            T.due("run(" + n + ")", thrown(x, n), 1);
        }
        T.due("count(6)", x.count(6), 4000);
    }

    /** "fewer when the run has ENDED or STANDS: how many". */
    private static void runFewer() {
        LevelUnits x = T.running("MODULE M; BEGIN PUT 1; PUT 2; PUT 3; END M.", 1);
        T.due("run(2)", x.run(2), 2);
        T.due("run(2)", x.run(2), 1);
        T.due("run(2)", x.run(2), 0);
        T.due("count(6)", x.count(6), 3);
        x.begin(1);
        T.due("run(3)", x.run(3), 3);
        T.due("run(0)", x.run(0), 0);
        x = T.running("MODULE M; VAR t : THREAD; VAR m : MUTEX; PROCEDURE p () = BEGIN END p; BEGIN m := NEW(MUTEX); LOCK m DO LOCK m DO END; END; END M.", 1);
        T.due("run(2000)", x.run(2000), 3);
        T.due("count(5)", x.count(5), 3);
        T.due("run(2000)", x.run(2000), 0);
        T.due("count(6)", x.count(6), 3);
    }

    /** "What throws changes nothing." */
    private static void whatThrows() {
        LevelUnits x = new LevelUnits();
        Tell.feed(x, "MODULE M; BEGIN LOOP PUT 1; END; END M.");
        int bytes = x.count(3);
        T.due("begin", begins(x, 1) ? 1 : 0, 0);
        T.due("run(1)", thrown(x, 1), 2);
        T.due("run(-1)", thrown(x, -1), 1);
        T.due("count(3)", x.count(3), bytes);
        T.due("read", x.read(), 0);
        T.due("run(1)", thrown(x, 1), 2);
        x.begin(1);
        x.run(7);
        T.due("run(2001)", thrown(x, 2001), 1);
        T.due("count(6)", x.count(6), 7);
        T.due("count(12)", x.count(12), 3);
        T.due("thread(0, 0)", x.thread(0, 0), 0);
        T.due("run(1)", x.run(1), 1);
    }

    private static void output() {
        LevelUnits x = T.running("MODULE M; BEGIN PUT 7; PUT - 8; PUT 0; PUT 9; END M.", 1);
        int[] numbers = {7, -8, 0, 9};
        for (int done = 0; done <= 4; done++) {
            for (int i = 0; i < 5; i++) {
                T.due("output(" + i + ")", x.output(i), i < done ? numbers[i] : 0);
            }
            T.due("count(12)", x.count(12), done);
            x.run(1);
        }
        for (int n : STRANGE) {
            T.due("output(" + n + ")", x.output(n), 0);
        }
        x.begin(1);
        T.due("output(0)", x.output(0), 0);
        T.due("output(3)", x.output(3), 0);
    }

    private static void cell() {
        String text = "INTERFACE A; VAR a, b : [4 .. 5]; END A. MODULE B; VAR c : ARRAY [1 .. 2] OF RECORD d : INTEGER; e : [6 .. 7]; END; VAR f : RECORD END; VAR g : [8 .. 9]; BEGIN END B. INTERFACE C; VAR h : [2 .. 3]; END C.";
        LevelUnits x = T.reading(text, 0);
        int[] cells = {4, 4, 0, 6, 0, 6, 8, 2, 0};
        for (int i = 0; i < cells.length; i++) {
            T.due("cell(" + i + ")", x.cell(i), 0);
        }
        x.begin(1);
        T.due("count(4)", x.count(4), 8);
        for (int i = 0; i < cells.length; i++) {
            T.due("cell(" + i + ")", x.cell(i), cells[i]);
        }
        for (int n : STRANGE) {
            T.due("cell(" + n + ")", x.cell(n), 0);
        }
        x = T.running("MODULE M; TYPE t = ARRAY [1 .. 1000] OF [1 .. 2]; VAR a, b, c, d, e : t; BEGIN e[1000] := 2; END M.", 1);
        x.run(1);
        T.due("cell(4999)", x.cell(4999), 2);
        T.due("cell(4998)", x.cell(4998), 1);
        T.due("cell(5000)", x.cell(5000), 0);
        // of a program with fewer of them nothing is left
        Tell.feed(x, "MODULE M; VAR a : [1 .. 1]; BEGIN END M.");
        x.read();
        x.begin(1);
        T.due("cell(0)", x.cell(0), 1);
        T.due("cell(1)", x.cell(1), 0);
    }

    private static void thread() {
        LevelUnits x = T.running("MODULE M; VAR t : THREAD; PROCEDURE p () = BEGIN\nLOOP END; END p; BEGIN\nt := FORK p(); END M.", 1);
        T.due("thread(1, 0)", x.thread(1, 0), NONE);
        x.run(1);
        for (int t = 0; t <= 1; t++) {
            T.due("thread(" + t + ", 6)", x.thread(t, 6), NONE);
            for (int n : STRANGE) {
                T.due("thread(" + t + ", " + n + ")", x.thread(t, n), NONE);
                T.due("thread(" + n + ", " + t + ")", x.thread(n, t), NONE);
            }
        }
        for (int what = 0; what <= 5; what++) {
            T.due("thread(2, " + what + ")", x.thread(2, what), NONE);
        }
    }

    private static void states(LevelUnits x, int t, int... want) {
        for (int what = 0; what < want.length; what++) {
            T.due("thread(" + t + ", " + what + ")", x.thread(t, what), want[what]);
        }
    }

    /** "0 its state, 1 the line of the ACT that it is ahead of, or in, 2 how many calls stand open, 3 what it WAITS for, 4 RAISED: the EXCEPTION; FAILED: its FAULT; NONE else, 5 RAISED: its number; 0 else". */
    private static void threadStates() {
        LevelUnits x = T.running("MODULE M; EXCEPTION e0; VAR m, n : MUTEX; VAR c : CONDITION; VAR t, j : THREAD; PROCEDURE deep (k : INTEGER) RAISES { e1 } = BEGIN IF k > 1 THEN deep(k - 1); ELSIF k = 1 THEN\nLOOP END; END;\nRAISE e1(- 9); END deep;\n"
                + "PROCEDURE lock () = BEGIN\nLOCK m DO END; END lock; PROCEDURE wait () = BEGIN LOCK n DO\nWAIT n, c; END; END wait; PROCEDURE join () = BEGIN\nJOIN j; END join; PROCEDURE over () = BEGIN END over;\n"
                + "PROCEDURE fail () : INTEGER = BEGIN PUT 1;\nEND fail; EXCEPTION e1; BEGIN m := NEW(MUTEX); n := NEW(MUTEX); c := NEW(CONDITION); LOCK m DO j := FORK deep(3); t := FORK lock(); t := FORK wait(); t := FORK join(); t := FORK over(); t := FORK deep(0); t := FORK fail();\n\nLOOP END; END; END M.", 1);
        x.run(400);
        states(x, 0, 0, 11, 0, 0, NONE, 0, NONE);
        states(x, 1, 0, 2, 3, 0, NONE, 0, NONE);
        states(x, 2, 1, 5, 1, 1, NONE, 0, NONE);
        states(x, 3, 2, 6, 1, 3, NONE, 0, NONE);
        states(x, 4, 3, 7, 1, 2, NONE, 0, NONE);
        states(x, 5, 4, 0, 0, 0, NONE, 0, NONE);
        states(x, 6, 5, 3, 0, 0, 1, -9, NONE);
        states(x, 7, 6, 9, 0, 0, 11, 0, NONE);
        T.due("count(8)", x.count(8), 3);
    }

    /** "0 its type's least TYPE that is alike, of an OBJECT or REF (NONE if there is none, or of others), 1 how many CELLS, 2 of a MUTEX the thread that holds it (NONE), of a CONDITION how many are in its row (NONE for others)." */
    private static void thing() {
        LevelUnits x = T.running("MODULE M; TYPE i = INTEGER; TYPE r = REF i; TYPE r2 = REF INTEGER; TYPE o = OBJECT x, y : INTEGER; END; TYPE p = o OBJECT z : INTEGER; END; TYPE mu = MUTEX; TYPE ro = ROOT; VAR m, n : MUTEX; VAR c : CONDITION; VAR a : ROOT; VAR b : r; VAR d : REF BOOLEAN;"
                + " VAR t : THREAD; PROCEDURE w () = BEGIN LOCK n DO WAIT n, c; END; END w; BEGIN m := NEW(mu); n := NEW(MUTEX); c := NEW(CONDITION); b := NEW(r2); d := NEW(REF BOOLEAN); a := NEW(p); a := NEW(OBJECT x : INTEGER; y : i; END); a := NEW(ROOT); a := NEW(o OBJECT END);"
                + " LOCK m DO t := FORK w(); t := FORK w(); LOOP END; END; END M.", 1);
        T.due("thing(1, 1)", x.thing(1, 1), NONE);
        x.run(200);
        int[][] due = {{NONE, 1, 0}, {NONE, 1, NONE}, {NONE, 1, 2}, {1, 1, NONE}, {NONE, 1, NONE}, {4, 3, NONE}, {3, 2, NONE}, {6, 0, NONE}, {NONE, 2, NONE}};
        for (int v = 1; v <= due.length; v++) {
            for (int what = 0; what < 3; what++) {
                T.due("thing(" + v + ", " + what + ")", x.thing(v, what), due[v - 1][what]);
            }
            T.due("thing(" + v + ", 3)", x.thing(v, 3), NONE);
            for (int n : STRANGE) {
                T.due("thing(" + v + ", " + n + ")", x.thing(v, n), NONE);
            }
        }
        for (int what = 0; what < 3; what++) {
            T.due("thing(0, " + what + ")", x.thing(0, what), NONE);
            T.due("thing(10, " + what + ")", x.thing(10, what), NONE);
            for (int n : STRANGE) {
                T.due("thing(" + n + ", " + what + ")", x.thing(n, what), NONE);
            }
        }
    }

    /** "CELL i of thing v (an OBJECT's by LEVELs from ROOT downwards, FIELDS in their order; of a MUTEX, CONDITION 0); 0 if there is none such." */
    private static void inside() {
        LevelUnits x = T.running("MODULE M; TYPE a = OBJECT p, q : INTEGER; END; TYPE b = a OBJECT METHODS m (); END; TYPE c = b OBJECT p : RECORD x, y : INTEGER; END; q : [5 .. 6]; END; VAR w : c; VAR u : a; VAR m : MUTEX; VAR k : CONDITION; VAR r : REF RECORD x, y : INTEGER; END; VAR e : ROOT; VAR f : REF RECORD END; BEGIN"
                + " w := NEW(c); w.p.x := 3; w.p.y := 4; u := w; u.p := 1; u.q := 2; m := NEW(MUTEX); k := NEW(CONDITION); r := NEW(REF RECORD x, y : INTEGER; END); r^.y := 8; e := NEW(ROOT); f := NEW(REF RECORD END); LOCK m DO LOOP END; END; END M.", 1);
        x.run(20);
        int[][] cells = {{1, 2, 3, 4, 5}, {0}, {0}, {0, 8}, {}, {}};
        for (int v = 1; v <= cells.length; v++) {
            for (int i = 0; i < cells[v - 1].length; i++) {
                T.due("inside(" + v + ", " + i + ")", x.inside(v, i), cells[v - 1][i]);
            }
            // not what stands behind, nor ahead
            T.due("inside(" + v + ", " + cells[v - 1].length + ")", x.inside(v, cells[v - 1].length), 0);
            for (int n : STRANGE) {
                T.due("inside(" + v + ", " + n + ")", x.inside(v, n), 0);
                T.due("inside(" + n + ", 0)", x.inside(n, 0), 0);
            }
        }
        // each thing's own CELLS alone, between those of others
        x = T.running("MODULE M; VAR r : REF ARRAY [1 .. 3] OF INTEGER; BEGIN FOR i := 1 TO 5 DO r := NEW(REF ARRAY [1 .. 3] OF INTEGER); FOR k := 1 TO 3 DO r^[k] := 10 * i + k; END; END; END M.", 1);
        x.run(2000);
        for (int v = 1; v <= 5; v++) {
            for (int i = -2; i < 12; i++) {
                T.due("inside(" + v + ", " + i + ")", x.inside(v, i), i >= 0 && i < 3 ? 10 * v + i + 1 : 0);
            }
        }
        T.due("inside(0, 0)", x.inside(0, 0), 0);
        T.due("inside(6, 0)", x.inside(6, 0), 0);
        T.due("inside(0, 1)", x.inside(0, 1), 0);
        T.due("inside(7, 0)", x.inside(7, 0), 0);
        T.due("inside(2, -1)", x.inside(2, -1), 0);
    }
}
