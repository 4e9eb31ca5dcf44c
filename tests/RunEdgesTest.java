/** "3. RUNS": each boundary that it names, by the last one that is still within it and the first one beyond it. */
final class RunEdgesTest {
    private static final Tell T = new Tell();
    private static final int MIN = Integer.MIN_VALUE;
    private static final int MAX = Integer.MAX_VALUE;

    public static void main(String[] args) {
        references();
        firstValues();
        firstOfFull();
        hiddenFields();
        steps();
        readyOnes();
        overflow();
        divisors();
        indexes();
        ranges();
        nil();
        objects();
        truth();
        leftToRight();
        placeFirst();
        callOrder();
        byValue();
        copiesAtTheEnds();
        callCells();
        returned();
        dispatch();
        forked();
        forsOfThreads();
        fors();
        exits();
        ifs();
        typecases();
        handlers();
        finallies();
        nestedSlots();
        locks();
        rows();
        rowOrder();
        joins();
        outputs();
        roomOfThings();
        roomOfCells();
        roomOfCalls();
        roomOfCallCells();
        roomOfThreads();
        noReturn();
        howARunIs();
        T.end("RunEdgesTest");
    }

    /** STATEMENTS in line 3; runs up to 2000 STEPS. */
    private static LevelUnits done(String told, String statements) {
        LevelUnits x = T.running("MODULE M;\n" + told + " BEGIN\n" + statements + "\nEND M.", 1);
        x.run(2000);
        return x;
    }

    private static void puts(String told, String statements, int... output) {
        LevelUnits x = done(told, statements);
        T.due("state behind " + statements, x.thread(0, 0), 4);
        T.output(x, output);
    }

    private static void fails(int fault, int line, String told, String statements, int... output) {
        LevelUnits x = done(told, statements);
        failed(x, 0, fault, line, statements);
        T.output(x, output);
    }

    private static void failed(LevelUnits x, int t, int fault, int line, String statements) {
        T.due("state behind " + statements, x.thread(t, 0), 6);
        T.due("FAULT of " + statements, x.thread(t, 4), fault);
        T.due("line of " + statements, x.thread(t, 1), line);
        T.due("calls behind " + statements, x.thread(t, 2), 0);
        T.due("number behind " + statements, x.thread(t, 5), 0);
    }

    private static void cells(LevelUnits x, int from, int... want) {
        for (int i = 0; i < want.length; i++) {
            T.due("cell(" + (from + i) + ")", x.cell(from + i), want[i]);
        }
    }

    /** "0 (NIL) or the number of an OBJECT, RECORD of a REF and so on: 1, 2, .. as NEW makes them (.. a THREAD's is its number and 1; a PROCEDURE's is its number by DECLARATIONS in the order of the text, told and made one)". */
    private static void references() {
        LevelUnits x = T.running("INTERFACE A; PROCEDURE p (); VAR a, b, c, d, e, f : PROCEDURE (); PROCEDURE q (); END A. MODULE A; PROCEDURE r () = BEGIN END r; PROCEDURE q () = BEGIN END q; PROCEDURE s () = BEGIN END s;"
                + " PROCEDURE p () = BEGIN END p; BEGIN a := p; b := q; c := r; d := s; f := NIL; END A."
                + " MODULE B; IMPORT A; PROCEDURE p () = BEGIN END p; VAR o, n : ROOT; VAR m : MUTEX; VAR k : CONDITION; VAR t, u : THREAD; VAR r : REF ROOT; BEGIN A.e := p; A.f := A.q;"
                + " o := NEW(ROOT); m := NEW(MUTEX); r := NEW(REF ROOT); k := NEW(CONDITION); t := FORK p(); u := FORK p(); n := NEW(ROOT); END B.", 3);
        x.run(2000);
        cells(x, 0, 1, 2, 3, 4, 5, 2, 1, 5, 2, 4, 2, 3, 3, 0);
    }

    /** "At first variables, CELLS of what NEW makes and LOCALS are 0, FALSE, NIL; of a RANGE without 0 the bound next to it." */
    private static void firstValues() {
        String[] types = {"INTEGER", "BOOLEAN", "ROOT", "MUTEX", "THREAD", "PROCEDURE ()", "[0 .. 5]", "[1 .. 5]", "[- 5 .. - 1]", "[- 5 .. 0]", "[- 5 .. 5]", "[0 .. 0]", "[2147483647 .. 2147483647]",
            "[- 2147483647 .. - 2147483647]", "[- 2147483647 .. - 2]"};
        int[] first = {0, 0, 0, 0, 0, 0, 0, 1, -1, 0, 0, 0, MAX, -MAX, -2};
        for (int i = 0; i < types.length; i++) {
            String t = types[i];
            String told = "TYPE r = RECORD y : ARRAY [1 .. 2] OF t; z : t; END; TYPE t = " + t + "; VAR w, v : t; VAR k : r; VAR n : REF t; VAR m : REF r; TYPE o = OBJECT x : t; y : r; END; TYPE o2 = o OBJECT z : t; END; VAR p : o;"
                    + " PROCEDURE f () = VAR w : t; VAR k : r; BEGIN v := w; END f;";
            LevelUnits x = done(told, "n := NEW(REF t); m := NEW(REF r); p := NEW(o2);");
            cells(x, 0, first[i], first[i], first[i], first[i], first[i], 1, 2, 3, 0);
            T.due("inside(1, 0) of " + t, x.inside(1, 0), first[i]);
            for (int c = 0; c < 3; c++) {
                T.due("inside(2, " + c + ") of " + t, x.inside(2, c), first[i]);
            }
            for (int c = 0; c < 5; c++) {
                T.due("inside(3, " + c + ") of " + t, x.inside(3, c), first[i]);
            }
            T.due("inside(3, 5)", x.inside(3, 5), 0);
            // LOCALS, also where another call has left its own
            if (i == 0 || i >= 6) {
                puts(told + " PROCEDURE g () = VAR a, b, c, d, e : INTEGER; BEGIN a := 99; b := 99; c := 99; d := 99; e := 99; END g; PROCEDURE h () = VAR w : t; VAR k : r; BEGIN PUT w; PUT k.y[1]; PUT k.y[2]; PUT k.z; END h;",
                        "g(); h();", first[i], first[i], first[i], first[i]);
            }
        }
    }

    /** Of as many CELLS as there can be, too; and of a run that is begun anew. */
    private static void firstOfFull() {
        String a = "TYPE a = ARRAY [1 .. 1000] OF RECORD x, y : [7 .. 8]; END; TYPE b = RECORD u : ARRAY [1 .. 999] OF RECORD x, y : [- 8 .. - 7]; END; v, w : [3 .. 4]; END; VAR n, z : a; VAR r : REF b; VAR o : OBJECT m : a; i : INTEGER; END;"
                + " PROCEDURE p () = VAR l : a; BEGIN PUT l[1].x; PUT l[1000].y; l[1].x := 8; END p;";
        LevelUnits x = done(a, "r := NEW(REF b); o := NEW(OBJECT m : a; i : INTEGER; END); p(); r^.v := 4; o.i := 5; o.m[1].x := 8; r := NEW(REF b); PUT r^.v; o := NEW(OBJECT m : a; i : INTEGER; END); PUT o.i; PUT o.m[1].x; p();");
        for (int round = 0; round < 2; round++) {
            T.output(x, 7, 7, 3, 0, 7, 7, 7);
            cells(x, 0, 7, 7);
            cells(x, 1999, 7, 7);
            cells(x, 3999, 7, 3, 4, 0);
            T.due("inside(1, 0)", x.inside(1, 0), -7);
            T.due("inside(1, 1997)", x.inside(1, 1997), -7);
            T.due("inside(1, 1998)", x.inside(1, 1998), 4);
            T.due("inside(1, 1999)", x.inside(1, 1999), 3);
            T.due("inside(4, 2000)", x.inside(4, 2000), 0);
            T.due("inside(4, 1999)", x.inside(4, 1999), 7);
            x.begin(3);
            x.run(2000);
        }
        // CELLS that another program has filled
        x = T.running("MODULE M; TYPE a = ARRAY [1 .. 9] OF INTEGER; VAR v : a; VAR r : REF a; BEGIN FOR i := 1 TO 9 DO v[i] := i; END; r := NEW(REF a); r^ := v; END M.", 1);
        x.run(2000);
        T.due("inside(1, 8)", x.inside(1, 8), 9);
        Tell.feed(x, "MODULE M; VAR v : ARRAY [1 .. 9] OF INTEGER; VAR m : MUTEX; VAR c : CONDITION; VAR r : REF RECORD a, b : INTEGER; END; VAR o : ROOT; BEGIN m := NEW(MUTEX); c := NEW(CONDITION); r := NEW(REF RECORD a, b : INTEGER; END); o := NEW(OBJECT x, y : INTEGER; END); END M.");
        T.due("read", x.read(), 0);
        x.begin(1);
        for (int i = 0; i < 9; i++) {
            T.due("cell(" + i + ")", x.cell(i), 0);
        }
        x.run(2000);
        T.due("count(10)", x.count(10), 6);
        for (int v = 1; v <= 4; v++) {
            T.due("inside(" + v + ", 0)", x.inside(v, 0), 0);
            T.due("inside(" + v + ", 1)", x.inside(v, 1), 0);
        }
        // CELLS that another run has filled
        x = T.running("MODULE M; VAR r : REF RECORD x, y : INTEGER; END; VAR t : THREAD; VAR k : INTEGER; PROCEDURE p () = VAR l : INTEGER; BEGIN PUT l; l := 9; END p; BEGIN r := NEW(REF RECORD x, y : INTEGER; END); r^.x := 5; r^.y := 6; t := FORK p(); JOIN t; k := 7; END M.", 1);
        for (int round = 0; round < 3; round++) {
            x.run(1);
            T.due("inside(1, 0)", x.inside(1, 0), 0);
            T.due("inside(1, 1)", x.inside(1, 1), 0);
            T.due("cell(2)", x.cell(2), 0);
            x.run(2000);
            T.due("inside(1, 1)", x.inside(1, 1), 6);
            T.due("cell(2)", x.cell(2), 7);
            T.output(x, 0);
            x.begin(round);
        }
    }

    /** "An OBJECT has the FIELDS of all LEVELs of its type's WHOLE CHAIN." */
    private static void hiddenFields() {
        LevelUnits x = T.running("INTERFACE A; TYPE pub = OBJECT x : INTEGER; END; TYPE o <: pub; PROCEDURE f (s : o) : INTEGER; END A.\n"
                + "MODULE A; REVEAL o = pub OBJECT h : [3 .. 4]; METHODS m () : INTEGER := f; END; PROCEDURE f (s : o) : INTEGER = BEGIN RETURN s.h; END f; BEGIN END A.\n"
                + "MODULE B; IMPORT A; TYPE t = A.o OBJECT z : INTEGER; END; VAR v : t; VAR i : INTEGER; BEGIN v := NEW(t); v.x := 7; v.z := 8; i := A.f(v); END B.", 1);
        x.run(20);
        T.due("thing(1, 1)", x.thing(1, 1), 3);
        T.due("inside(1, 0)", x.inside(1, 0), 7);
        T.due("inside(1, 1)", x.inside(1, 1), 3);
        T.due("inside(1, 2)", x.inside(1, 2), 8);
        T.due("cell(1)", x.cell(1), 3);
        T.due("sees(2, 2)", x.sees(2, 2), 4);
        T.due("type(2, 4)", x.type(2, 4), 4);
    }

    private static void takes(int steps, String statements) {
        LevelUnits x = T.running("MODULE M; EXCEPTION e; VAR i, n : INTEGER; VAR b : BOOLEAN; VAR m : MUTEX; VAR c : CONDITION; VAR t : THREAD; VAR o : ROOT; PROCEDURE p () = BEGIN END p; PROCEDURE q () = BEGIN PUT 1; END q;"
                + " PROCEDURE r () = BEGIN RETURN; END r; PROCEDURE f () : INTEGER = BEGIN RETURN 1; END f; BEGIN " + statements + " END M.", 1);
        T.due("STEPS of " + statements, x.run(2000), steps);
        T.due("count(6)", x.count(6), steps);
        T.due("count(5)", x.count(5), 2);
    }

    /** "an ACT: each STATEMENT but TRY; WHILE, LOOP and FOR each time that they are looked at (first, too, and the last time)". */
    private static void steps() {
        takes(0, "");
        takes(0, "TRY EXCEPT END; TRY FINALLY END; TRY TRY FINALLY TRY EXCEPT ELSE END; END; EXCEPT END;");
        takes(1, "i := 1;");
        takes(1, "TRY i := 1; FINALLY END;");
        takes(2, "TRY i := 1; FINALLY i := 2; END;");
        takes(1, "TRY i := 1; EXCEPT ELSE i := 2; END;");
        takes(1, "p();");
        takes(2, "q();");
        takes(2, "r();");
        takes(2, "i := f();");
        takes(1, "IF b THEN PUT 1; END;");
        takes(2, "IF b THEN ELSE PUT 1; END;");
        takes(1, "IF b THEN ELSIF b THEN ELSIF b THEN END;");
        takes(1, "WHILE b DO END;");
        takes(5, "WHILE i < 2 DO i := i + 1; END;");
        takes(2, "LOOP EXIT; END;");
        takes(9, "LOOP IF i = 2 THEN EXIT; END; i := i + 1; IF i = 2 THEN EXIT; END; END;");
        takes(1, "FOR k := 2 TO 1 DO END;");
        takes(2, "FOR k := 1 TO 1 DO END;");
        takes(3, "FOR k := 1 TO 2 DO END;");
        takes(5, "FOR k := 1 TO 2 DO PUT k; END;");
        takes(1, "TYPECASE o OF ELSE END;");
        takes(2, "TYPECASE o OF | ROOT (z) => PUT 1; ELSE PUT 2; PUT 3; END;");
        takes(2, "m := NEW(MUTEX); LOCK m DO END;");
        takes(3, "m := NEW(MUTEX); LOCK m DO PUT 1; END;");
        takes(3, "c := NEW(CONDITION); SIGNAL c; BROADCAST c;");
        takes(2, "TRY RAISE e(1); EXCEPT | e(v) => PUT v; END;");
        takes(1, "TRY RAISE e(1); EXCEPT | e(v) => END;");
        takes(1, "RAISE e(1);");
        takes(2, "t := FORK p(); JOIN t;");
        takes(2, "TRY LOOP EXIT; END; FINALLY END;");
        // the unit behind is gone on to within the same STEP
        LevelUnits x = T.running("MODULE A; BEGIN PUT 1; END A. MODULE B; BEGIN END B. MODULE C; BEGIN\nPUT 2; END C.", 1);
        x.run(1);
        T.due("thread(0, 1)", x.thread(0, 1), 2);
        T.due("run(5)", x.run(5), 1);
    }

    /** "A STEP: of the READY threads, by their numbers, the k-th one (from 0), k being (S >>> 16) % how many there are": not those that WAIT, nor those that are over. */
    private static void readyOnes() {
        String text = "MODULE M; VAR m : MUTEX; VAR t : THREAD; PROCEDURE p () = BEGIN LOCK m DO END; END p; PROCEDURE q () = BEGIN LOOP PUT 3; END; END q; PROCEDURE r () = BEGIN PUT 2; END r;"
                + " BEGIN m := NEW(MUTEX); LOCK m DO t := FORK p(); t := FORK r(); t := FORK q(); LOOP PUT 0; END; END; END M.";
        for (int seed : new int[] {0, 1, 2, 3, -7, MIN, MAX, 987654321}) {
            LevelUnits x = T.running(text, seed);
            int s = seed;
            int[] acts = new int[4];
            int outputs = 0;
            for (int step = 0; step < 150; step++) {
                boolean[] ready = {true, acts[0] >= 3 && acts[1] == 0, acts[0] >= 4 && acts[2] == 0, acts[0] >= 5};
                int many = 0;
                for (boolean one : ready) {
                    many += one ? 1 : 0;
                }
                s = s * 1103515245 + 12345;
                int k = (s >>> 16) % many;
                int t = 0;
                while (!ready[t] || k > 0) {
                    k -= ready[t] ? 1 : 0;
                    t++;
                }
                acts[t]++;
                T.due("run(1)", x.run(1), 1);
                boolean puts = t == 0 ? acts[0] > 6 && acts[0] % 2 == 1 : t == 2 || t == 3 && acts[3] % 2 == 0;
                if (puts) {
                    T.due("output(" + outputs + ") of seed " + seed, x.output(outputs), t);
                    outputs++;
                }
                T.due("count(12) of seed " + seed, x.count(12), outputs);
                T.due("thread(1, 0)", x.thread(1, 0), acts[0] < 3 ? -1 : acts[1]);
            }
        }
    }

    /** "1 OVERFLOW (+ - * and - of one; -2147483648 DIV -1)". */
    private static void overflow() {
        String m = "VAR n, z : INTEGER;";
        String least = "n := - 2147483647 - 1; ";
        puts(m, "PUT 2147483646 + 1; PUT 2147483647 + 0; PUT - 2147483647 + - 1; PUT 2147483647 + - 2147483647;", MAX, MAX, MIN, 0);
        fails(1, 3, m, "PUT 2147483647 + 1;");
        fails(1, 3, m, "PUT 1 + 2147483647;");
        fails(1, 3, m, "PUT 2147483647 + 2147483647;");
        puts(m, least + "PUT n + 0; PUT n + 1; PUT n - 0; PUT n - n; PUT - 1 - 2147483647; PUT n + 2147483647;", MIN, -MAX, MIN, 0, MIN, -1);
        fails(1, 3, m, least + "PUT n + - 1;");
        fails(1, 3, m, least + "PUT n - 1;");
        fails(1, 3, m, least + "PUT n + n;");
        fails(1, 3, m, least + "PUT 0 - n;");
        puts(m, least + "PUT - 1 - n; PUT 2147483647 - 0;", MAX, MAX);
        fails(1, 3, m, "PUT 2147483647 - - 1;");
        puts(m, "PUT 46340 * 46340; PUT 65536 * 32767; PUT - 65536 * 32768; PUT 65536 * - 32768; PUT 2147483647 * - 1; PUT 2147483647 * 1; PUT 0 * 2147483647;", 2147395600, 2147418112, MIN, MIN, -MAX, MAX, 0);
        fails(1, 3, m, "PUT 46341 * 46341;");
        fails(1, 3, m, "PUT 65536 * 32768;");
        fails(1, 3, m, "PUT 65536 * 65536;");
        fails(1, 3, m, "PUT - 65536 * 32769;");
        fails(1, 3, m, "PUT 2147483647 * 2147483647;");
        puts(m, least + "PUT n * 1; PUT 1 * n; PUT n * 0;", MIN, MIN, 0);
        fails(1, 3, m, least + "PUT n * - 1;");
        fails(1, 3, m, least + "PUT n * n;");
        puts(m, "PUT - 2147483647; PUT - 0; PUT - (- 1);", -MAX, 0, 1);
        puts(m, least + "PUT - (n + 1);", MAX);
        fails(1, 3, m, least + "PUT - n;");
        puts(m, least + "PUT n DIV 1; PUT (n + 1) DIV - 1; PUT n DIV 2; PUT n DIV - 2; PUT n MOD - 1; PUT n MOD 1; PUT n DIV n; PUT n MOD n; PUT n MOD 2147483647; PUT 2147483647 MOD n; PUT 2147483647 DIV n; PUT n DIV 2147483647;",
                MIN, MAX, -1073741824, 1073741824, 0, 0, 1, 0, 2147483646, -1, -1, -2);
        fails(1, 3, m, least + "PUT n DIV - 1;");
        // within an E, too
        fails(1, 3, m, "PUT 2147483647 + 1 - 1;");
        puts(m, "PUT 2147483647 - 1 + 1; PUT 2147483647 + (1 - 1);", MAX, MAX);
        // an E of a RANGE is an INTEGER
        puts("VAR r : [0 .. 9];", "r := 9; PUT r + 1; PUT r * r * r;", 10, 729);
    }

    /** "2 DIV, MOD by 0"; "MODs and DIVs are those by floor (the rest has the sign of the divisor)". */
    private static void divisors() {
        for (String s : new String[] {"DIV", "MOD"}) {
            fails(2, 3, "VAR z : INTEGER;", "PUT 1 " + s + " 0;");
            fails(2, 3, "VAR z : INTEGER;", "PUT 0 " + s + " z;");
            fails(2, 3, "VAR z : INTEGER;", "PUT (- 2147483647 - 1) " + s + " z;");
        }
        int[] a = {7, -7, 7, -7, 6, -6, 6, -6, 0, 0, 1, -1, 1, -1};
        int[] b = {2, 2, -2, -2, 3, 3, -3, -3, 5, -5, 5, 5, -5, -5};
        int[] div = {3, -4, -4, 3, 2, -2, -2, 2, 0, 0, 0, -1, -1, 0};
        int[] mod = {1, 1, -1, -1, 0, 0, 0, 0, 0, 0, 1, 4, -4, -1};
        for (int i = 0; i < a.length; i++) {
            String pair = "(" + a[i] + ") # (" + b[i] + ")";
            puts("", "PUT " + pair.replace("#", "DIV") + "; PUT " + pair.replace("#", "MOD") + ";", div[i], mod[i]);
        }
    }

    /** "3 An index that is none." */
    private static void indexes() {
        String a = "VAR a : ARRAY [2 .. 4] OF INTEGER; VAR b : ARRAY [- 3 .. - 1] OF ARRAY [0 .. 0] OF INTEGER; VAR f : REF ARRAY [1 .. 2] OF INTEGER; VAR n : INTEGER;";
        LevelUnits x = done(a, "a[2] := 7; a[4] := 8; b[- 3][0] := 5; b[- 1][0] := 6; f := NEW(REF ARRAY [1 .. 2] OF INTEGER); f^[1] := 3; f^[2] := 4;");
        cells(x, 0, 7, 0, 8, 5, 0, 6, 1);
        T.due("inside(1, 0)", x.inside(1, 0), 3);
        T.due("inside(1, 1)", x.inside(1, 1), 4);
        for (String s : new String[] {"a[1] := 1;", "a[5] := 1;", "n := a[1];", "n := a[5];", "b[- 4][0] := 1;", "b[0][0] := 1;", "b[- 1][1] := 1;", "b[- 1][- 1] := 1;", "a[2147483647] := 1;", "a[- 2147483647 - 1] := 1;", "PUT a[0];",
            "n := b[- 4][7];"}) {
            fails(3, 3, a, s);
        }
        fails(3, 4, a, "f := NEW(REF ARRAY [1 .. 2] OF INTEGER);\nf^[0] := 3;");
        fails(3, 4, a, "f := NEW(REF ARRAY [1 .. 2] OF INTEGER);\nf^[3] := 3;");
        x = done("VAR a : ARRAY [2147483646 .. 2147483647] OF INTEGER; VAR b : ARRAY [- 2147483647 .. - 2147483646] OF INTEGER;", "a[2147483646] := 1; a[2147483647] := 2; b[- 2147483647] := 3; b[- 2147483646] := 4;");
        cells(x, 0, 1, 2, 3, 4);
        fails(3, 3, "VAR a : ARRAY [2147483646 .. 2147483647] OF INTEGER;", "a[2147483645] := 1;");
        fails(3, 3, "VAR b : ARRAY [- 2147483647 .. - 2147483646] OF INTEGER;", "b[- 2147483647 - 1] := 1;");
        fails(3, 3, "VAR b : ARRAY [- 2147483647 .. - 2147483646] OF INTEGER;", "b[- 2147483645] := 1;");
        // of all kinds of STATEMENTS, the line is the innermost one's
        fails(3, 4, a, "LOOP\nIF a[5] = 1 THEN END; END;");
        fails(3, 3, a, "IF FALSE THEN\nELSIF a[5] = 1 THEN\nEND;");
        fails(3, 3, a, "WHILE a[5] = 1 DO\nEND;");
        fails(3, 3, a, "FOR k := 1 TO\na[5] DO\nEND;");
    }

    /** "4 A value outside of a RANGE." */
    private static void ranges() {
        String r = "VAR r : [- 2 .. 3]; VAR s : [5 .. 5]; VAR i : INTEGER; VAR a : ARRAY [0 .. 1] OF [1 .. 2]; VAR f : REF [1 .. 2]; TYPE o = OBJECT x : [1 .. 2]; END; VAR w : o;"
                + " PROCEDURE p (x : [1 .. 2]) = VAR l : [1 .. 2]; BEGIN l := x + i; END p; PROCEDURE g () : INTEGER = BEGIN RETURN i; END g; PROCEDURE h () : [1 .. 2] = BEGIN RETURN i;\nEND h;";
        LevelUnits x = done(r, "r := - 2; s := 5; a[0] := 2; a[1] := 1; f := NEW(REF [1 .. 2]); f^ := 2; w := NEW(o); w.x := 2; p(1); p(2); i := 3; r := g(); i := 2; i := h(); i := 1; i := h();");
        T.due("state", x.thread(0, 0), 4);
        cells(x, 0, 3, 5, 1, 2, 1, 1, 2);
        for (String s : new String[] {"r := - 3;", "r := 4;", "s := 4;", "s := 6;", "a[0] := 0;", "a[1] := 3;", "p(0);", "p(3);", "r := 2147483647;", "r := - 2147483647 - 1;"}) {
            fails(4, 4, r, s);
        }
        fails(4, 5, r, "f := NEW(REF [1 .. 2]);\nf^ := 0;");
        fails(4, 5, r, "w := NEW(o);\nw.x := 3;");
        // a LOCAL
        fails(4, 2, r, "i := 1; p(2);");
        // RETURN E: at its line; then the PLACE ahead of := , at that one's line
        fails(4, 2, r, "i := 3; i := h();");
        fails(4, 2, r, "h();");
        fails(4, 5, r, "i := 4;\nr := g();");
    }

    /** "5 NIL where an object, REF, MUTEX, CONDITION, THREAD must be." */
    private static void nil() {
        String n = "TYPE o = OBJECT x : INTEGER; METHODS m (k : INTEGER) := q; END; PROCEDURE q (s : o; k : INTEGER) = BEGIN END q; VAR w : o; VAR f : REF INTEGER; VAR h : REF RECORD y : REF INTEGER; END; VAR mu : MUTEX; VAR co : CONDITION; VAR t : THREAD; VAR b : BOOLEAN;";
        for (String s : new String[] {"w.x := 1;", "PUT w.x;", "w.m(1);", "t := FORK w.m(1);", "f^ := 1;", "PUT f^;", "PUT h^.y^;", "LOCK mu DO END;", "LOCK NIL DO END;", "SIGNAL co;", "BROADCAST co;", "SIGNAL NIL;", "JOIN t;", "JOIN NIL;",
            "WAIT mu, co;", "WAIT NIL, NIL;"}) {
            fails(5, 3, n, s);
        }
        fails(5, 4, n, "h := NEW(REF RECORD y : REF INTEGER; END);\nPUT h^.y^;");
        fails(5, 4, n, "mu := NEW(MUTEX);\nWAIT mu, co;");
        fails(5, 4, n, "co := NEW(CONDITION);\nWAIT mu, co;");
        // where it may be
        puts(n, "w := NIL; b := w = NIL; w := NARROW(w, o); b := b AND ISTYPE(w, o); TYPECASE w OF | o (z) => PUT 1; END; q(NIL, 1); IF b THEN PUT 2; END;", 1, 2);
    }

    /** "6 NARROW, or a value held against a place, of an object that is not of the type"; "ISTYPE: whether the object is of the type, or of one below it in its WHOLE CHAIN (NIL is)". */
    private static void objects() {
        String o = "TYPE a = OBJECT END; TYPE b = a OBJECT x : INTEGER; END; TYPE c = a OBJECT y : INTEGER; END; TYPE d = b OBJECT END; TYPE b2 = a OBJECT x : INTEGER; END; VAR va : a; VAR vb : b; VAR vd : d; VAR r : ROOT; VAR n : ARRAY [0 .. 1] OF b; VAR f : REF b; VAR i : BOOLEAN;"
                + " PROCEDURE p (s : b) = BEGIN END p; PROCEDURE g () : a = BEGIN RETURN va; END g; PROCEDURE h () : b = BEGIN RETURN va;\nEND h;";
        String[] fine = {"b", "d", "b2"};
        String[] not = {"a", "c"};
        for (String t : fine) {
            puts(o, "va := NEW(" + t + "); vb := va; vb := NARROW(va, b); r := va; vb := NARROW(r, b); n[1] := va; f := NEW(REF b); f^ := va; p(va); vb := g(); vb := h(); IF ISTYPE(va, b) THEN PUT 1; END;", 1);
        }
        for (String t : not) {
            String make = "va := NEW(" + t + ");\n";
            for (String s : new String[] {"vb := va;", "vb := NARROW(va, b);", "va := NARROW(va, b);", "n[0] := va;", "p(va);", "vb := g();", "i := NARROW(va, b) = NIL;"}) {
                fails(6, 5, o, make + s);
            }
            fails(6, 2, o, make + "vb := h();");
            fails(6, 2, o, make + "va := h();");
            fails(6, 5, o, make + "f := NEW(REF b); f^ := va;");
            puts(o, make + "IF NOT ISTYPE(va, b) AND ISTYPE(va, a) THEN PUT 1; END;", 1);
        }
        puts(o, "vb := NIL; vb := va; vb := NARROW(r, b); p(NIL); vb := g(); vb := h(); IF ISTYPE(vb, d) AND ISTYPE(NIL, d) THEN PUT 1; END;", 1);
        fails(6, 5, o, "va := NEW(b);\nvd := va;");
    }

    private static void truth() {
        String[] relations = {"=", "#", "<", "<=", ">", ">="};
        int[] numbers = {-2147483647, -1, 0, 1, 2, 2147483647};
        for (int a : numbers) {
            for (int b : numbers) {
                int[] due = {a == b ? 1 : 0, a != b ? 1 : 0, a < b ? 1 : 0, a <= b ? 1 : 0, a > b ? 1 : 0, a >= b ? 1 : 0};
                StringBuilder text = new StringBuilder();
                for (int i = 0; i < relations.length; i++) {
                    text.append("v[").append(i).append("] := ").append(a).append(' ').append(relations[i]).append(' ').append(b).append("; ");
                }
                cells(done("VAR v : ARRAY [0 .. 5] OF BOOLEAN;", text.toString()), 0, due);
            }
        }
        String[] bools = {"FALSE", "TRUE"};
        for (int a = 0; a < 2; a++) {
            for (int b = 0; b < 2; b++) {
                String pair = "v[#] := " + bools[a] + " @ " + bools[b] + "; ";
                LevelUnits x = done("VAR v : ARRAY [0 .. 4] OF BOOLEAN;", pair.replace("#", "0").replace("@", "AND") + pair.replace("#", "1").replace("@", "OR") + pair.replace("#", "2").replace("@", "=")
                        + pair.replace("#", "3").replace("@", "#") + "v[4] := NOT " + bools[a] + ";");
                cells(x, 0, a & b, a | b, a == b ? 1 : 0, a != b ? 1 : 0, 1 - a);
            }
        }
        // references; OR binds least, then AND, then NOT, then relations, sums, products, -
        LevelUnits x = done("VAR v : ARRAY [0 .. 9] OF BOOLEAN; VAR o, p : ROOT; VAR q : PROCEDURE (); PROCEDURE a () = BEGIN END a; PROCEDURE b () = BEGIN END b;",
                "o := NEW(ROOT); p := NEW(ROOT); v[0] := o = p; v[1] := o # p; v[2] := o = o; v[3] := p = NIL; v[4] := NIL = NIL; q := b; v[5] := q = a; v[6] := q = b; v[7] := TRUE OR TRUE AND FALSE; v[8] := NOT FALSE AND FALSE; v[9] := NOT 1 = 2;");
        cells(x, 0, 0, 1, 1, 0, 1, 0, 1, 1, 0, 1);
        puts("", "PUT 1 + 2 * 3; PUT 10 - 4 - 3; PUT 2 * 7 DIV 3; PUT 7 DIV 2 * 3; PUT - 7 DIV 2; PUT 2 - - 3; PUT - 2 * 3 + 10; PUT 17 MOD 7 MOD 2;", 7, 3, 4, 9, -4, 5, 4, 1);
        puts("", "PUT (1 + 2) * 3; PUT 10 - (4 - 3); PUT 2 * (7 DIV 3); PUT - (7 DIV 2); PUT - (2 * 3 + 10);", 9, 9, 4, -3, -16);
    }

    /** "E's are worked out from the left to the right, all of them (of AND, OR, too)." */
    private static void leftToRight() {
        String a = "VAR a : ARRAY [0 .. 1] OF INTEGER; VAR f : REF INTEGER; VAR b : BOOLEAN; VAR i : INTEGER;";
        fails(2, 3, a, "PUT 1 DIV 0 + a[9];");
        fails(3, 3, a, "PUT a[9] + 1 DIV 0;");
        fails(5, 3, a, "PUT f^ + a[9];");
        fails(3, 3, a, "PUT a[9] * f^;");
        fails(1, 3, a, "PUT (2147483647 + 1) - a[9];");
        fails(2, 3, a, "b := FALSE AND (1 DIV 0 = 1);");
        fails(2, 3, a, "b := TRUE OR (1 DIV 0 = 1);");
        fails(3, 3, a, "b := (a[9] = 1) OR (1 DIV 0 = 1);");
        fails(3, 3, a, "a[a[9]] := 1 DIV 0;");
        fails(2, 3, a, "i := a[a[1 DIV 0 + 7]];");
        fails(3, 3, a, "FOR k := a[9] TO 1 DIV 0 DO END;");
        fails(2, 3, a, "FOR k := 1 DIV 0 TO a[9] DO END;");
        // NEW's numbers tell the order
        LevelUnits x = done("VAR b : BOOLEAN; VAR o, p : ROOT; VAR q : REF ROOT;", "b := NEW(ROOT) = NEW(OBJECT x : INTEGER; END); b := (NEW(ROOT) = NIL) AND (NIL = NEW(OBJECT x, y : INTEGER; END));");
        int[] cells = {0, 1, 0, 2};
        for (int v = 1; v <= 4; v++) {
            T.due("thing(" + v + ", 1)", x.thing(v, 1), cells[v - 1]);
        }
    }

    /** ":= the PLACE first, then the E; then the value is held against the place (FAULT 4, 6), then copied." */
    private static void placeFirst() {
        String a = "TYPE o = OBJECT n : o; x : [1 .. 2]; END; VAR a : ARRAY [0 .. 1] OF [1 .. 2]; VAR w : o; VAR f : REF INTEGER; VAR r : REF o;";
        fails(3, 3, a, "a[2] := 1 DIV 0;");
        fails(2, 3, a, "a[1] := 1 DIV 0;");
        fails(5, 3, a, "w.x := 1 DIV 0;");
        fails(5, 3, a, "f^ := 1 DIV 0;");
        fails(2, 3, a, "a[1] := 9 + 1 DIV 0;");
        LevelUnits x = done(a, "r := NEW(REF o); r^ := NEW(o); a[1] := 7;");
        failed(x, 0, 4, 3, "a[1] := 7");
        T.due("cell(1)", x.cell(1), 1);
        // the place of an object's FIELD is that of the object that was there at first
        x = done("TYPE o = OBJECT n : o; END; VAR w : o;", "w := NEW(o); w.n := NEW(o); w.n.n := NEW(o);");
        T.due("inside(1, 0)", x.inside(1, 0), 2);
        T.due("inside(2, 0)", x.inside(2, 0), 3);
        // copied as a whole
        x = done("TYPE t = ARRAY [0 .. 2] OF RECORD a, b : INTEGER; END; VAR u, v : t; VAR f : REF t; VAR n : ARRAY [0 .. 1] OF t;", "u[0].a := 1; u[2].b := 2; v := u; f := NEW(REF t); f^ := v; n[1] := f^; u[0].a := 5; n[0] := n[1]; n[1] := n[1];");
        cells(x, 0, 5, 0, 0, 0, 0, 2, 1, 0, 0, 0, 0, 2, 1, 1, 0, 0, 0, 0, 2, 1, 0, 0, 0, 0, 2);
    }

    /** "A CALL: the PLACE ahead of := , then its PROCEDURE (an object for a METHOD: the first parameter; FAULT 5), then the parameters in order (each held against its FORMAL at once); .. FAULT 5, 10 come ahead of the parameters, 9 behind them." */
    private static void callOrder() {
        String c = "TYPE o = OBJECT METHODS m (k : INTEGER) : INTEGER; l (k : INTEGER) : INTEGER := q; END; TYPE o2 = o OBJECT END; VAR w : o; VAR w2 : o2; VAR v : PROCEDURE (k : INTEGER) : INTEGER; VAR a : ARRAY [0 .. 1] OF INTEGER; VAR i : INTEGER; VAR t : ARRAY [0 .. 1] OF THREAD; VAR f : REF INTEGER;"
                + " PROCEDURE q (s : o; k : INTEGER) : INTEGER = BEGIN RETURN k; END q; PROCEDURE p (x, y : [1 .. 2]; z : o2) : INTEGER = BEGIN RETURN x; END p; PROCEDURE s (VAR x : INTEGER; y : [1 .. 2]) = BEGIN END s;"
                + " PROCEDURE big (k : INTEGER) = VAR b, c, d : ARRAY [1 .. 1000] OF INTEGER; BEGIN END big; PROCEDURE deep (k, l : INTEGER) = BEGIN IF k = 60 THEN deep(k, 1 DIV 0); ELSE deep(k + 1, l); END; END deep;";
        fails(3, 3, c, "a[2] := v(1 DIV 0);");
        fails(10, 3, c, "a[1] := v(1 DIV 0);");
        fails(3, 3, c, "a[2] := w.m(1 DIV 0);");
        fails(5, 3, c, "a[1] := w.m(1 DIV 0);");
        fails(10, 4, c, "w := NEW(o);\na[1] := w.m(1 DIV 0);");
        fails(2, 4, c, "w := NEW(o);\na[1] := w.l(1 DIV 0);");
        fails(3, 3, c, "t[2] := FORK v(1 DIV 0);");
        fails(10, 3, c, "t[1] := FORK v(1 DIV 0);");
        fails(5, 3, c, "t[1] := FORK w.l(1 DIV 0);");
        fails(4, 3, c, "i := p(3, 1 DIV 0, w);");
        fails(2, 3, c, "i := p(1 DIV 0, 3, w);");
        fails(4, 3, c, "i := p(1, 3, w);");
        fails(6, 4, c, "w := NEW(o);\ni := p(1, 2, w);");
        fails(4, 4, c, "w := NEW(o);\ni := p(1, 0, w);");
        fails(3, 3, c, "s(a[2], 1 DIV 0);");
        fails(5, 3, c, "s(f^, 1 DIV 0);");
        fails(4, 3, c, "s(a[1], 3);");
        fails(2, 3, c, "big(1 DIV 0);");
        fails(9, 3, c, "big(1);");
        fails(2, 3, c, "t[0] := FORK big(1 DIV 0);");
        fails(9, 3, c, "t[0] := FORK big(1);");
        fails(2, 2, c, "deep(1, 1);");
        fails(10, 4, c, "v := NIL;\nv(1);");
        // with VAR the place is found when the call begins, and stays
        puts("VAR a : ARRAY [0 .. 1] OF INTEGER; VAR i : INTEGER; PROCEDURE s (VAR x, y : INTEGER) = BEGIN y := 1; x := 7; END s;", "s(a[i], i); PUT a[0]; PUT a[1]; PUT i;", 7, 0, 1);
        puts("TYPE o = OBJECT x : INTEGER; END; VAR w : o; PROCEDURE s (VAR x : INTEGER) = BEGIN w := NEW(o); x := 7; END s;", "w := NEW(o); s(w.x); PUT w.x;", 0);
        // the place ahead of := , too
        puts("VAR a : ARRAY [0 .. 1] OF INTEGER; VAR i : INTEGER; PROCEDURE s () : INTEGER = BEGIN i := 1; RETURN 7; END s;", "a[i] := s(); PUT a[0]; PUT a[1];", 7, 0);
    }

    /** A parameter without VAR is a copy, of whatever row of CELLS it comes from. */
    private static void byValue() {
        String v = "TYPE t = RECORD a : ARRAY [1 .. 2] OF INTEGER; b : BOOLEAN; END; VAR g, h : t; VAR f : REF t; VAR o : OBJECT x : INTEGER; y : t; END; VAR k : ARRAY [0 .. 1] OF t;"
                + " PROCEDURE p (m : INTEGER; x : t; n : INTEGER) = BEGIN PUT x.a[1]; PUT x.a[2]; PUT m; PUT n; x.a[1] := 99; x.b := TRUE; END p; PROCEDURE q (VAR z : t) = VAR l : t; BEGIN p(1, z, 2); l := z; l.a[2] := 7; p(3, l, 4); z.a[1] := 8; END q;"
                + " PROCEDURE r (x, y : t) = BEGIN g.a[1] := 50; PUT x.a[1]; PUT y.a[1]; END r;";
        String set = "g.a[1] := 5; g.a[2] := 6; ";
        puts(v, set + "p(10, g, 20); PUT g.a[1];", 5, 6, 10, 20, 5);
        puts(v, set + "f := NEW(REF t); f^ := g; p(10, f^, 20); PUT f^.a[1];", 5, 6, 10, 20, 5);
        puts(v, set + "o := NEW(OBJECT x : INTEGER; y : t; END); o.y := g; p(10, o.y, 20); PUT o.y.a[1];", 5, 6, 10, 20, 5);
        puts(v, set + "k[1] := g; p(10, k[1], 20); p(1, k[0], 2);", 5, 6, 10, 20, 0, 0, 1, 2);
        puts(v, set + "q(g); PUT g.a[1]; PUT g.a[2];", 5, 6, 1, 2, 5, 7, 3, 4, 8, 6);
        puts(v, set + "h := g; h.a[1] := 55; r(g, h); PUT g.a[1];", 5, 55, 50);
    }

    /** Copies from and to the last CELLS that there can be. */
    private static void copiesAtTheEnds() {
        String a = "TYPE a = ARRAY [1 .. 1000] OF RECORD x, y : INTEGER; END; TYPE b = ARRAY [1 .. 998] OF INTEGER; VAR n : REF b; VAR r : REF a; VAR u, v : a; VAR w : b;"
                + " PROCEDURE p (k : b) = VAR l, m, o, q : INTEGER; VAR d : b; BEGIN d[1] := 3; d[998] := 4; k := d; PUT k[1]; PUT k[998]; k[1] := 5; d := k; PUT d[1]; PUT d[998]; d[998] := 7; w := d; PUT w[998]; w[998] := 8; d := w; PUT d[998]; END p;";
        LevelUnits x = done(a, "w[1] := 1; w[998] := 2; n := NEW(REF b); n^ := w; IF NIL = NEW(OBJECT x, y, z, k : INTEGER; END) THEN END; FOR i := 1 TO 9 DO r := NEW(REF a); END; n := NEW(REF b); n^[998] := 6; w := n^; PUT w[998]; w[998] := 9; n^ := w; PUT n^[998]; p(w);");
        T.due("count(4)", x.count(4), 5000);
        T.due("count(10)", x.count(10), 20000);
        T.due("state", x.thread(0, 0), 4);
        T.output(x, 6, 9, 3, 4, 5, 4, 7, 8);
        T.due("cell(4999)", x.cell(4999), 8);
        T.due("inside(1, 997)", x.inside(1, 997), 2);
        T.due("inside(12, 997)", x.inside(12, 997), 9);
    }

    /** "LOCALS and FORMALs of calls that stand open take CELLS, a FORMAL with VAR one; NAMEs of FOR, HANDLERS, BRANCHES none". */
    private static void callCells() {
        String[] signatures = {"", "a : INTEGER", "a, b : INTEGER; c : BOOLEAN", "a : r", "VAR a : r", "VAR a, b : r; c : r", "a : RECORD END", "VAR a : RECORD END"};
        int[] cells = {0, 1, 3, 3, 1, 5, 0, 1};
        String[] given = {"", "1", "1, 1, TRUE", "v", "v", "v, v, v", "e", "e"};
        String[] locals = {"", "VAR l : INTEGER;", "VAR l, m : r; VAR n : RECORD END;"};
        int[] more = {0, 1, 6};
        for (int i = 0; i < signatures.length; i++) {
            for (int j = 0; j < locals.length; j++) {
                String call = signatures[i].contains("VAR") ? "p(" : "t := FORK p(";
                LevelUnits x = T.running("MODULE M; EXCEPTION ex; TYPE r = RECORD x : ARRAY [0 .. 1] OF INTEGER; y : ROOT; END; VAR v : r; VAR e : RECORD END; VAR t : THREAD; PROCEDURE p (" + signatures[i] + ") = " + locals[j]
                        + " BEGIN FOR k := 1 TO 1 DO TRY RAISE ex(1); EXCEPT | ex(z) => TYPECASE NIL OF | ROOT (u) => LOOP END; END; END; END; END p; BEGIN " + call + given[i] + "); END M.", 1);
                x.run(20);
                T.due("count(11) of (" + signatures[i] + ") " + locals[j], x.count(11), cells[i] + more[j]);
                T.due("calls", x.thread(x.count(7) - 1, 2), 1);
            }
        }
    }

    /** "RETURN E is held against the RESULT (FAULT at its line), the call ends, then it is held against the PLACE ahead of := (FAULT at that one's line)." */
    private static void returned() {
        String r = "VAR i : INTEGER; VAR n : [0 .. 5]; PROCEDURE p () : [3 .. 9] = BEGIN TRY\nRETURN i; FINALLY PUT 7; END; END p; PROCEDURE q () : [3 .. 9] = BEGIN\nn := p();\nRETURN 3; END q;";
        fails(4, 3, r, "i := 2; n := p();");
        fails(4, 3, r, "i := 10; p();");
        fails(4, 7, r, "i := 6;\nn := p();", 7);
        fails(4, 4, r, "i := 6; i := q();", 7);
        puts(r, "i := 3; n := p(); PUT n; i := 5; n := p(); PUT n; i := 9; p();", 7, 3, 7, 5, 7);
        puts(r, "i := 5; i := q(); PUT i; PUT n;", 7, 3, 5);
    }

    /** "A METHOD: from the object's type on upwards in its WHOLE CHAIN the first LEVEL that OVERRIDES that METHOD, or is the one with it (its own PROCEDURE; FAULT 10 without)." */
    private static void dispatch() {
        String d = "TYPE a = OBJECT METHODS m () := pa; n (); END; TYPE b = a OBJECT OVERRIDES n := pb; END; TYPE c = b OBJECT METHODS m () := pc; END; TYPE d = c OBJECT OVERRIDES m := pd; n := pd; END; TYPE e = d OBJECT END;"
                + " VAR va : a; VAR vb : b; VAR vc : c; VAR vd : d; PROCEDURE pa (s : ROOT) = BEGIN PUT 1; END pa; PROCEDURE pb (s : ROOT) = BEGIN PUT 2; END pb; PROCEDURE pc (s : ROOT) = BEGIN PUT 3; END pc; PROCEDURE pd (s : ROOT) = BEGIN PUT 4; END pd;";
        puts(d, "va := NEW(a); va.m();", 1);
        fails(10, 4, d, "va := NEW(a);\nva.n();");
        puts(d, "va := NEW(b); va.m(); va.n();", 1, 2);
        // a METHOD of the same NAME is another one
        puts(d, "vc := NEW(c); va := vc; va.m(); vc.m(); va.n(); vc.n();", 1, 3, 2, 2);
        puts(d, "vd := NEW(d); va := vd; vc := vd; va.m(); vc.m(); vd.m(); va.n(); vd.n();", 1, 4, 4, 4, 4);
        puts(d, "vd := NEW(e); va := vd; va.m(); vd.m(); va.n();", 1, 4, 4);
        // hidden LEVELs are in the WHOLE CHAIN
        LevelUnits x = T.running("INTERFACE A; TYPE pub = OBJECT METHODS m () := p; END; TYPE o <: pub; PROCEDURE p (s : pub); PROCEDURE make () : pub; END A.\n"
                + "MODULE A; REVEAL o = pub OBJECT METHODS k () := q; OVERRIDES m := q; END; PROCEDURE p (s : pub) = BEGIN PUT 1; END p; PROCEDURE q (s : o) = BEGIN PUT 2; END q; PROCEDURE make () : pub = BEGIN RETURN NEW(o); END make; BEGIN END A.\n"
                + "MODULE B; IMPORT A; TYPE t = A.o OBJECT METHODS k () := r; END; TYPE u = A.o OBJECT OVERRIDES m := r; END; VAR v : A.pub; VAR w : t; PROCEDURE r (s : ROOT) = BEGIN PUT 3; END r;\n"
                + "BEGIN v := NEW(A.pub); v.m(); v := A.make(); v.m(); v := NEW(t); v.m(); w := v; w.k(); v := NEW(u); v.m(); END B.", 1);
        x.run(2000);
        T.output(x, 1, 2, 2, 3, 3);
    }

    /** "FORK: likewise by the thread that does it (FAULT 9, too); the new thread is READY ahead of the call's first ACT (or over at once), its value goes to the PLACE; a RESULT is held against its type and gone." */
    private static void forked() {
        String f = "VAR t : ARRAY [0 .. 3] OF THREAD; VAR i : INTEGER; PROCEDURE p (k : [1 .. 2]) =\nBEGIN PUT k; END p; PROCEDURE q () = BEGIN END q; PROCEDURE r () : [1 .. 2] = BEGIN\nRETURN 3; END r; PROCEDURE s () : [1 .. 2] = BEGIN RETURN 2; END s; PROCEDURE e () : INTEGER = BEGIN\nEND e;";
        LevelUnits x = T.running("MODULE M;\n" + f + " BEGIN\nt[0] := FORK p(2);\nt[1] := FORK q(); t[2] := FORK r(); t[3] := FORK s(); END M.", 1);
        x.run(1);
        T.due("thread(1, 0)", x.thread(1, 0), 0);
        T.due("thread(1, 1)", x.thread(1, 1), 3);
        T.due("thread(1, 2)", x.thread(1, 2), 1);
        T.due("thread(0, 1)", x.thread(0, 1), 7);
        cells(x, 0, 2, 0);
        while (x.count(7) < 3) {
            x.run(1);
        }
        T.due("thread(2, 0)", x.thread(2, 0), 4);
        T.due("thread(2, 1)", x.thread(2, 1), 0);
        x.run(2000);
        cells(x, 0, 2, 3, 4, 5);
        failed(x, 3, 4, 4, "t[2] := FORK r()");
        T.due("thread(4, 0)", x.thread(4, 0), 4);
        T.due("thread(0, 0)", x.thread(0, 0), 4);
        x = done(f, "t[0] := FORK e(); PUT 5;");
        failed(x, 1, 11, 5, "t[0] := FORK e()");
        T.output(x, 5);
        T.due("thread(0, 0)", x.thread(0, 0), 4);
        cells(x, 0, 2);
        x = done(f, "t[0] := FORK p(3);");
        failed(x, 0, 4, 6, "FORK p(3)");
        T.due("count(7)", x.count(7), 1);
        cells(x, 0, 0);
    }

    /** FORs of threads go on where they were, whatever the others do. */
    private static void forsOfThreads() {
        for (int seed = 0; seed < 8; seed++) {
            LevelUnits x = T.running("MODULE M; VAR t, u : THREAD; VAR n : INTEGER; PROCEDURE p (a : INTEGER) = BEGIN FOR k := a TO a + 4 DO n := n + k; END; END p; BEGIN t := FORK p(10); u := FORK p(100); FOR k := 1000 TO 1004 DO n := n + k; END; JOIN t; JOIN u; PUT n; END M.", seed);
            x.run(2000);
            T.output(x, 5 * 1110 + 30);
            // three FORs of 11, two FORKs, two JOINs (one more STEP each if it WAITed), a PUT
            T.due("count(6)", x.count(6) >= 38 && x.count(6) <= 40 ? 1 : 0, 1);
        }
    }

    /** "FOR: both E's at first; the NAME is an INTEGER that goes up by 1 till it is the second one." */
    private static void fors() {
        puts("", "FOR k := 1 TO 3 DO PUT k; END;", 1, 2, 3);
        puts("", "FOR k := 3 TO 3 DO PUT k; END;", 3);
        puts("", "FOR k := 4 TO 3 DO PUT k; END;");
        puts("", "FOR k := - 1 TO 1 DO PUT k; END;", -1, 0, 1);
        puts("", "FOR k := 2147483646 TO 2147483647 DO PUT k; END;", MAX - 1, MAX);
        puts("", "FOR k := 2147483647 TO - 2147483647 DO PUT k; END;");
        puts("", "FOR k := - 2147483647 - 1 TO - 2147483647 DO PUT k; END;", MIN, -MAX);
        puts("VAR n : INTEGER;", "n := 2; FOR k := n TO n + 1 DO n := 9; PUT k; END;", 2, 3);
        puts("VAR r : [1 .. 2];", "FOR k := r TO r + 1 DO PUT k; END; FOR k := 1 TO 2 DO r := k; END; PUT r;", 1, 2, 2);
        puts("", "FOR k := 1 TO 2 DO FOR k := k + 10 TO k + 11 DO PUT k; END; PUT k; END;", 11, 12, 1, 12, 13, 2);
        puts("", "FOR k := 1 TO 3 DO IF k = 2 THEN EXIT; END; PUT k; END; PUT 9;", 1, 9);
        // one that is begun anew looks at its E's anew
        puts("VAR n : INTEGER;", "LOOP n := n + 1; FOR k := n TO 2 DO PUT k; END; IF n = 3 THEN EXIT; END; END;", 1, 2, 2);
    }

    /** EXIT leaves the innermost WHILE, LOOP or FOR. */
    private static void exits() {
        for (String loop : new String[] {"LOOP", "WHILE TRUE DO", "FOR k := 1 TO 9 DO"}) {
            for (String outer : new String[] {"LOOP", "WHILE TRUE DO", "FOR k := 1 TO 9 DO"}) {
                puts("", outer + " PUT 1; " + loop + " PUT 2; IF TRUE THEN EXIT; END; PUT 8; END; PUT 3; EXIT; END; PUT 4;", 1, 2, 3, 4);
                puts("", outer + " TRY " + loop + " TRY EXIT; FINALLY PUT 1; END; END; FINALLY PUT 2; END; TRY EXIT; EXCEPT ELSE PUT 8; END; END; PUT 4;", 1, 2, 4);
            }
        }
    }

    private static void ifs() {
        String b = "VAR i : INTEGER;";
        for (int i = 0; i < 5; i++) {
            puts(b, "i := " + i + "; IF i = 0 THEN PUT 10; ELSIF i = 1 THEN PUT 11; ELSIF i <= 2 THEN PUT 12; ELSIF i = 2 THEN PUT 99; ELSIF i = 3 THEN ELSE PUT 14; END; PUT i;", i == 3 ? new int[] {3} : new int[] {10 + i, i});
        }
        puts(b, "IF FALSE THEN PUT 1; ELSIF FALSE THEN PUT 2; END; PUT 3;", 3);
        puts(b, "IF TRUE THEN PUT 1; ELSIF 1 DIV 0 = 1 THEN PUT 2; END;", 1);
        fails(2, 3, b, "IF FALSE THEN PUT 1; ELSIF 1 DIV 0 = 1 THEN PUT 2; ELSE PUT 3; END;");
    }

    /** "TYPECASE: the first BRANCH of whose type it is (ELSE without; FAULT 7 without that), the NAME being a place of its own with it." */
    private static void typecases() {
        String o = "TYPE a = OBJECT x : INTEGER; END; TYPE b = a OBJECT END; TYPE c = a OBJECT y : INTEGER; END; VAR v : a;";
        String of = " TYPECASE v OF | c (k) => PUT 3; | a (k) => PUT 1; | b (k) => PUT 2; ELSE PUT 4; END;";
        puts(o, "v := NEW(a);" + of, 1);
        puts(o, "v := NEW(b);" + of, 1);
        puts(o, "v := NEW(c);" + of, 3);
        puts(o, of, 3);
        puts(o, "v := NEW(a); TYPECASE v OF | b (k) => PUT 2; | c (k) => PUT 3; ELSE PUT 4; END;", 4);
        fails(7, 4, o, "v := NEW(a);\nTYPECASE v OF | b (k) => PUT 2; | c (k) => PUT 3; END;");
        fails(7, 3, o, "TYPECASE v OF END;");
        puts(o, "TYPECASE v OF ELSE PUT 5; END;", 5);
        puts(o, "v := NEW(c); TYPECASE v OF | c (k) => k.y := 8; PUT k.y; k := NIL; IF k = NIL THEN PUT 1; END; END; IF v # NIL THEN PUT 2; END;", 8, 1, 2);
        fails(6, 4, o, "v := NEW(c); TYPECASE v OF | c (k) =>\nk := NARROW(NEW(a), c); END;");
        fails(6, 4, o, "v := NEW(c); TYPECASE v OF | c (k) => v := NEW(a);\nk := v; END;");
    }

    /** "of the innermost TRY .. EXCEPT in whose first STATEMENTS it comes to pass and whose HANDLERS name it, that HANDLER is done (NAME is an INTEGER place with the number), or its ELSE". */
    private static void handlers() {
        String e = "EXCEPTION e; EXCEPTION g; EXCEPTION h; PROCEDURE p (k : INTEGER) RAISES { e, g, h } = BEGIN IF k = 1 THEN RAISE e(11); ELSIF k = 2 THEN RAISE g(12); ELSIF k = 3 THEN RAISE h(13); END; PUT 0; END p;";
        String within = "TRY TRY p(#); PUT 90; EXCEPT | e(x) => PUT x; PUT 1; | g(y) => PUT y; PUT 2; END; PUT 91; EXCEPT | g(z) => PUT 3; ELSE PUT 4; END; PUT 92;";
        puts(e, within.replace("#", "0"), 0, 90, 91, 92);
        puts(e, within.replace("#", "1"), 11, 1, 91, 92);
        puts(e, within.replace("#", "2"), 12, 2, 91, 92);
        puts(e, within.replace("#", "3"), 4, 92);
        // what comes to pass in a HANDLER or ELSE goes outward
        puts(e, "TRY TRY p(1); EXCEPT | e(x) => RAISE e(x + 1); | g(x) => PUT 8; ELSE PUT 9; END; EXCEPT | e(x) => PUT x; END;", 12);
        puts(e, "TRY TRY p(3); EXCEPT ELSE RAISE g(7); END; EXCEPT | g(x) => PUT x; END;", 7);
        puts(e, "TRY TRY p(1); EXCEPT ELSE PUT 1; END; EXCEPT | e(x) => PUT 2; END;", 1);
        puts(e, "TRY RAISE e(- 2147483647 - 1); EXCEPT | e(x) => PUT x; x := x + 1; PUT x; END;", MIN, -MAX);
        LevelUnits x = done(e, "TRY\nRAISE g(5); EXCEPT | e(x) => PUT 1; | h(x) => PUT 2; END; PUT 3;");
        T.due("thread(0, 0)", x.thread(0, 0), 5);
        T.due("thread(0, 1)", x.thread(0, 1), 4);
        T.due("thread(0, 4)", x.thread(0, 4), 1);
        T.due("thread(0, 5)", x.thread(0, 5), 5);
        T.output(x);
        // "thread 0: a unit's STATEMENTS, those behind are not done"
        x = T.running("MODULE A; EXCEPTION e; BEGIN PUT 1; RAISE e(0); PUT 2; END A. MODULE B; BEGIN PUT 3; END B.", 1);
        x.run(9);
        T.output(x, 1);
        T.due("count(5)", x.count(5), 2);
    }

    /** "on the way FINALLY's STATEMENTS are done (a RAISE, RETURN, EXIT that leaves these takes the place of what was on its way)". */
    private static void finallies() {
        String e = "EXCEPTION e; EXCEPTION g; VAR i : INTEGER; PROCEDURE p (k, l : INTEGER) : INTEGER RAISES { e, g } = BEGIN LOOP TRY IF k = 1 THEN RAISE e(11); ELSIF k = 2 THEN RETURN 12; ELSIF k = 3 THEN EXIT; END; PUT 0;"
                + " FINALLY PUT 5; IF l = 1 THEN RAISE g(21); ELSIF l = 2 THEN RETURN 22; ELSIF l = 3 THEN EXIT; END; PUT 6; END; PUT 7; EXIT; END; RETURN 30; END p;";
        int[][][] due = {
            {{0, 5, 6, 7, 30}, {0, 5, 121}, {0, 5, 22}, {0, 5, 30}},
            {{5, 6, 111}, {5, 121}, {5, 22}, {5, 30}},
            {{5, 6, 12}, {5, 121}, {5, 22}, {5, 30}},
            {{5, 6, 30}, {5, 121}, {5, 22}, {5, 30}}};
        for (int k = 0; k < 4; k++) {
            for (int l = 0; l < 4; l++) {
                puts(e, "TRY i := p(" + k + ", " + l + "); PUT i; EXCEPT | e(x) => PUT x + 100; | g(x) => PUT x + 100; END;", due[k][l]);
            }
        }
        // from the innermost one outward, calls and loops within them
        puts("EXCEPTION e; PROCEDURE q () = BEGIN TRY FOR k := 1 TO 2 DO TRY RETURN; FINALLY PUT k; END; END; FINALLY PUT 3; END; END q;",
                "TRY TRY TRY RAISE e(4); FINALLY q(); END; FINALLY LOOP TRY RAISE e(9); EXCEPT | e(x) => PUT x; EXIT; END; END; END; EXCEPT | e(x) => PUT x; END;", 1, 3, 9, 4);
        // a FAULT does none
        fails(2, 3, "", "TRY TRY PUT 1 DIV 0; FINALLY PUT 1; END; EXCEPT ELSE PUT 2; END;");
        fails(2, 4, "", "TRY PUT 7; FINALLY\nPUT 1 DIV 0; END;", 7);
        LevelUnits x = T.running("MODULE M; EXCEPTION e; EXCEPTION g; BEGIN TRY\nRAISE g(1); FINALLY TRY\nRAISE e(2); EXCEPT | e(x) => PUT x; END; END; END M.", 1);
        x.run(9);
        T.due("thread(0, 1)", x.thread(0, 1), 2);
        T.due("thread(0, 4)", x.thread(0, 4), 1);
        T.due("thread(0, 5)", x.thread(0, 5), 1);
    }

    /** NAMEs of FOR, HANDLERS, BRANCHES are places of their own in each call, 20 STATEMENTS and 60 calls within one another. */
    private static void nestedSlots() {
        StringBuilder b = new StringBuilder("VAR n : INTEGER; VAR m : MUTEX; PROCEDURE p (d : INTEGER) = BEGIN ");
        for (int i = 0; i < 18; i++) {
            b.append("FOR k").append(i).append(" := d * 100 + ").append(i).append(" TO d * 100 + ").append(i).append(" DO ");
        }
        b.append("IF d < 60 THEN p(d + 1); ELSE LOCK m DO END; END; IF TRUE THEN n := k0");
        for (int i = 1; i < 18; i++) {
            b.append(" + k").append(i);
        }
        b.append("; END; FOR k := n - d * 1800 TO n - d * 1800 DO PUT k + d; END; ").append("END; ".repeat(18)).append("END p;");
        LevelUnits x = T.running("MODULE M; " + b + " BEGIN m := NEW(MUTEX); p(1); END M.", 1);
        while (x.run(2000) == 2000) {
            T.due("state", x.thread(0, 0), 0);
        }
        int[] due = new int[60];
        for (int i = 0; i < 60; i++) {
            due[i] = 153 + 60 - i;
        }
        T.output(x, due);
        T.due("count(13)", x.count(13), 0);
        // the same of LOCKs, HANDLERS, BRANCHES and what is on its way through FINALLY
        String deep = "LOOP ".repeat(17);
        String ends = "EXIT; END; ".repeat(17);
        String told = "EXCEPTION e; TYPE o = OBJECT x : INTEGER; END; VAR v : o; PROCEDURE p (d : INTEGER) : INTEGER RAISES { e } = VAR r : INTEGER; VAR w : o; BEGIN " + deep
                + "TRY IF d < 4 THEN r := p(d + 1); ELSE r := 0; END; RETURN r + d; FINALLY r := 0; IF d < 3 THEN r := q(d + 1); END; END; " + ends + "RETURN 0; END p;"
                + " PROCEDURE q (d : INTEGER) : INTEGER RAISES { e } = VAR r : INTEGER; BEGIN " + deep + "TRY RAISE e(d); EXCEPT | e(x) => IF d < 5 THEN r := q(d + 1); END; PUT x; END; " + ends + "RETURN r; END q;";
        puts(told + " VAR i : INTEGER;", "i := p(1); PUT i;", 5, 4, 3, 5, 4, 3, 2, 10);
    }

    /** "if it is free the thread holds it; else it WAITS and is READY again as long as it is free; then, as a STEP, it holds it. (One that holds it itself WAITS for good.) Behind its STATEMENTS, and when they are left, it is free." */
    private static void locks() {
        LevelUnits x = done("VAR m : MUTEX;", "m := NEW(MUTEX); LOCK m DO PUT 1; END; LOCK m DO\nLOCK m DO PUT 2; END; END;");
        T.output(x, 1);
        T.due("count(5)", x.count(5), 3);
        T.due("thread(0, 0)", x.thread(0, 0), 1);
        T.due("thread(0, 1)", x.thread(0, 1), 4);
        T.due("thread(0, 3)", x.thread(0, 3), 1);
        T.due("thing(1, 2)", x.thing(1, 2), 0);
        // left by EXIT, RETURN, RAISE, or at its end
        for (String leave : new String[] {"", "EXIT;", "RETURN;", "RAISE e(1);"}) {
            x = done("EXCEPTION e; VAR m, n : MUTEX; PROCEDURE p () RAISES { e } = BEGIN LOOP LOCK m DO LOCK n DO " + leave + " END; END; EXIT; END; END p;", "m := NEW(MUTEX); n := NEW(MUTEX); TRY p(); EXCEPT | e(x) => END; LOCK n DO LOCK m DO PUT 1; LOOP END; END; END;");
            T.output(x, 1);
            T.due("count(13)", x.count(13), 2);
            T.due("thing(2, 2)", x.thing(2, 2), 0);
        }
        // what leaves the first call gives them back, a FAULT does not
        x = done("EXCEPTION e; VAR m : MUTEX;", "m := NEW(MUTEX); LOCK m DO RAISE e(1); END;");
        T.due("count(13)", x.count(13), 0);
        x = done("EXCEPTION e; VAR m : MUTEX;", "m := NEW(MUTEX); LOCK m DO PUT 1 DIV 0; END;");
        T.due("count(13)", x.count(13), 1);
        T.due("thing(1, 2)", x.thing(1, 2), 0);
        // two that WAIT are READY when it is free; when one holds it, the other one WAITS again
        x = T.running("MODULE M; VAR m : MUTEX; VAR t : THREAD; VAR k : INTEGER; PROCEDURE p () = BEGIN\nLOCK m DO LOOP END; END; END p; BEGIN m := NEW(MUTEX); LOCK m DO t := FORK p(); t := FORK p(); WHILE k < 400 DO k := k + 1; END; END; LOOP END; END M.", 5);
        while (x.thread(1, 0) != 1 || x.thread(2, 0) != 1) {
            x.run(1);
        }
        T.due("count(13)", x.count(13), 1);
        while (x.count(13) == 1) {
            x.run(1);
        }
        T.due("thread(1, 0)", x.thread(1, 0), 0);
        T.due("thread(2, 0)", x.thread(2, 0), 0);
        T.due("thread(1, 3)", x.thread(1, 3), 0);
        T.due("thread(1, 1)", x.thread(1, 1), 2);
        while (x.count(13) == 0) {
            x.run(1);
        }
        int holder = x.thing(1, 2);
        T.due("holder", holder == 1 || holder == 2 ? 1 : 0, 1);
        T.due("the other one", x.thread(3 - holder, 0), 1);
        T.due("the other one", x.thread(3 - holder, 3), 1);
        T.due("holder", x.thread(holder, 0), 0);
    }

    /** "WAIT m, c: FAULT 8 if the thread does not hold m; m is free, the thread WAITS, the last one in c's row. SIGNAL c: the first one of c's row leaves it and WAITS for its m as at LOCK; BROADCAST: all of them. (FAULT 5 of either E ahead of 8.)" */
    private static void rows() {
        String w = "VAR m, n : MUTEX; VAR c : CONDITION; VAR t : THREAD; VAR k : INTEGER; PROCEDURE p () = BEGIN LOCK m DO LOOP END; END; END p;";
        fails(8, 4, w, "m := NEW(MUTEX); c := NEW(CONDITION);\nWAIT m, c;");
        fails(8, 4, w, "m := NEW(MUTEX); c := NEW(CONDITION); LOCK m DO END;\nWAIT m, c;");
        fails(8, 4, w, "m := NEW(MUTEX); c := NEW(CONDITION); n := NEW(MUTEX); LOCK n DO\nWAIT m, c; END;");
        fails(5, 4, w, "m := NEW(MUTEX);\nWAIT m, c;");
        fails(5, 4, w, "c := NEW(CONDITION);\nWAIT m, c;");
        LevelUnits x = done(w, "m := NEW(MUTEX); c := NEW(CONDITION); t := FORK p(); WHILE k < 30 DO k := k + 1; END;\nWAIT m, c;");
        failed(x, 0, 8, 4, "WAIT what another one holds");
        T.due("thing(1, 2)", x.thing(1, 2), 1);
        x = done(w, "m := NEW(MUTEX); c := NEW(CONDITION); LOCK m DO\nWAIT m, c; END;");
        T.due("thread(0, 0)", x.thread(0, 0), 2);
        T.due("thread(0, 1)", x.thread(0, 1), 4);
        T.due("thread(0, 3)", x.thread(0, 3), 2);
        T.due("count(13)", x.count(13), 0);
        T.due("thing(2, 2)", x.thing(2, 2), 1);
        T.due("count(5)", x.count(5), 3);
        // one that another MUTEX belongs to WAITS for its own one
        x = done(w + " PROCEDURE q () = BEGIN LOCK n DO k := 1; WAIT n, c; PUT 7; END; END q;", "m := NEW(MUTEX); n := NEW(MUTEX); c := NEW(CONDITION); t := FORK q(); WHILE k = 0 DO END; LOCK n DO LOCK m DO SIGNAL c; PUT 6; LOCK m DO END; END; END;");
        T.due("thread(1, 0)", x.thread(1, 0), 1);
        T.due("thread(1, 3)", x.thread(1, 3), 2);
        T.due("thing(3, 2)", x.thing(3, 2), 0);
        T.output(x, 6);
        // SIGNAL and BROADCAST of a row without any do nothing; a later WAIT is not woken
        x = done(w, "m := NEW(MUTEX); c := NEW(CONDITION); SIGNAL c; BROADCAST c; LOCK m DO WAIT m, c; END; PUT 1;");
        T.due("count(5)", x.count(5), 3);
        T.output(x);
        for (int seed = 1; seed < 6; seed++) {
            for (int wakes = 0; wakes <= 4; wakes++) {
                x = T.running("MODULE M; VAR m : MUTEX; VAR c, d : CONDITION; VAR t : THREAD; VAR k : INTEGER; PROCEDURE p (i : INTEGER) = BEGIN LOCK m DO k := k + 1; WAIT m, c; PUT i; END; END p; BEGIN m := NEW(MUTEX); c := NEW(CONDITION); d := NEW(CONDITION);"
                        + " FOR i := 1 TO 3 DO t := FORK p(i); WHILE k < i DO END; END; LOCK m DO END; FOR i := 1 TO " + wakes + " DO SIGNAL c; SIGNAL d; BROADCAST d; LOCK m DO END; k := 0; WHILE k < 40 DO k := k + 1; END; END; END M.", seed);
                x.run(2000);
                int[] due = {1, 2, 3};
                T.output(x, java.util.Arrays.copyOf(due, Math.min(wakes, 3)));
                T.due("thing(2, 2)", x.thing(2, 2), Math.max(0, 3 - wakes));
                T.due("thing(3, 2)", x.thing(3, 2), 0);
            }
        }
    }

    /** The row is in the order of the WAITs, not of the threads; thread 0 stands in it as any other. */
    private static void rowOrder() {
        String w = "MODULE M; VAR m : MUTEX; VAR c : CONDITION; VAR t : THREAD; VAR n, go : INTEGER; PROCEDURE p (i : INTEGER) = BEGIN WHILE go # i DO END; LOCK m DO go := 0; WAIT m, c; PUT i; n := n - 1; END; END p;"
                + " PROCEDURE s () = BEGIN WHILE go # 9 DO END; LOCK m DO END; WHILE n > 0 DO go := n; SIGNAL c; WHILE n = go DO END; END; END s; BEGIN m := NEW(MUTEX); c := NEW(CONDITION); FOR i := 1 TO 3 DO t := FORK p(i); END; t := FORK s();";
        int[][] orders = {{1, 2, 3}, {3, 2, 1}, {2, 3, 1}, {3, 1, 2}, {2, 1, 3}};
        for (int[] o : orders) {
            StringBuilder b = new StringBuilder(w);
            for (int i = 0; i < 3; i++) {
                b.append(" go := ").append(o[i]).append("; WHILE go # 0 DO END; LOCK m DO END;");
            }
            b.append(" LOCK m DO n := 4; go := 9; WAIT m, c; PUT 0; n := n - 1; END; END M.");
            for (int seed = 1; seed < 4; seed++) {
                LevelUnits x = T.running(b.toString(), seed);
                x.run(2000);
                x.run(2000);
                T.output(x, o[0], o[1], o[2], 0);
                T.due("count(5)", x.count(5), 2);
            }
        }
        // BROADCAST: all of them, thread 0, too
        LevelUnits x = T.running("MODULE M; VAR m : MUTEX; VAR c : CONDITION; VAR t : THREAD; VAR n : INTEGER; PROCEDURE p () = BEGIN LOCK m DO n := n + 1; WAIT m, c; END; PUT 1; END p; PROCEDURE b () = BEGIN WHILE n < 3 DO END; LOCK m DO BROADCAST c; LOOP END; END; END b;"
                + " BEGIN m := NEW(MUTEX); c := NEW(CONDITION); t := FORK p(); t := FORK p(); t := FORK b(); LOCK m DO n := n + 1; WAIT m, c; END; END M.", 1);
        x.run(400);
        for (int t = 0; t < 3; t++) {
            T.due("thread(" + t + ", 0)", x.thread(t, 0), 1);
            T.due("thread(" + t + ", 3)", x.thread(t, 3), 1);
        }
        T.due("thing(2, 2)", x.thing(2, 2), 0);
    }

    /** "JOIN: it WAITS, and is READY again when that thread is over; then, as a STEP, it goes on (at once if it is over)." */
    private static void joins() {
        LevelUnits x = T.running("MODULE M; VAR t : THREAD; PROCEDURE p () = BEGIN PUT 1; PUT 2; END p; BEGIN t := FORK p();\nJOIN t;\nJOIN t; PUT 3; END M.", 1);
        while (x.thread(0, 0) != 3) {
            x.run(1);
        }
        T.due("thread(0, 3)", x.thread(0, 3), 2);
        T.due("thread(0, 1)", x.thread(0, 1), 2);
        while (x.thread(1, 0) == 0) {
            T.due("thread(0, 0)", x.thread(0, 0), 3);
            x.run(1);
        }
        T.due("thread(0, 0)", x.thread(0, 0), 0);
        T.due("thread(0, 3)", x.thread(0, 3), 0);
        T.due("thread(0, 1)", x.thread(0, 1), 2);
        x.run(1);
        T.due("thread(0, 1)", x.thread(0, 1), 3);
        x.run(1);
        T.due("run(9)", x.run(9), 1);
        T.output(x, 1, 2, 3);
        // of one that RAISED or FAILED, too; one that JOINs itself WAITS for good
        puts("EXCEPTION e; VAR t : THREAD; PROCEDURE p () RAISES { e } = BEGIN RAISE e(1); END p; PROCEDURE q () = BEGIN PUT 1 DIV 0; END q;", "t := FORK p(); JOIN t; PUT 1; t := FORK q(); JOIN t; PUT 2;", 1, 2);
        x = done("VAR t, u : THREAD; PROCEDURE p () = BEGIN WHILE t = NIL DO END; JOIN t; PUT 1; END p;", "t := FORK p(); JOIN t;");
        T.due("count(5)", x.count(5), 3);
        T.due("thread(1, 3)", x.thread(1, 3), 2);
        T.output(x);
    }

    /** "PUT: a number more of the OUTPUT (beyond 500 nothing comes)". */
    private static void outputs() {
        for (int n : new int[] {499, 500, 501}) {
            LevelUnits x = T.running("MODULE M; BEGIN FOR k := 1 TO " + n + " DO PUT k; END; END M.", 1);
            T.due("run(2000)", x.run(2000), 2 * n + 1);
            T.due("count(5)", x.count(5), 2);
            T.due("count(12)", x.count(12), Math.min(n, 500));
            T.due("output(498)", x.output(498), 499);
            T.due("output(499)", x.output(499), n < 500 ? 0 : 500);
            T.due("output(500)", x.output(500), 0);
        }
    }

    private static LevelUnits runAll(String text) {
        LevelUnits x = T.running(text, 1);
        for (int i = 0; i < 40; i++) {
            x.run(2000);
        }
        return x;
    }

    /** "9 ROOM: more than 2,000 things by NEW". */
    private static void roomOfThings() {
        for (String make : new String[] {"o := NEW(ROOT);", "m := NEW(MUTEX);", "c := NEW(CONDITION);", "f := NEW(REF INTEGER);"}) {
            String text = "MODULE M; VAR o : ROOT; VAR m : MUTEX; VAR c : CONDITION; VAR f : REF INTEGER; BEGIN FOR k := 1 TO # DO\n" + make + " END; PUT 1; END M.";
            LevelUnits x = runAll(text.replace("#", "2000"));
            T.due("thread(0, 0)", x.thread(0, 0), 4);
            T.due("count(9)", x.count(9), 2000);
            x = runAll(text.replace("#", "2001"));
            failed(x, 0, 9, 2, make);
            T.due("count(9)", x.count(9), 2000);
            T.due("thing(2000, 1)", x.thing(2000, 1), make.contains("ROOT") ? 0 : 1);
            T.due("thing(2001, 1)", x.thing(2001, 1), -1);
        }
    }

    /** "20,000 CELLS of these (an OBJECT of n CELLS has n, a REF those of its type, others 1)". */
    private static void roomOfCells() {
        String t = "TYPE a = ARRAY [1 .. 1000] OF RECORD x, y : INTEGER; END; TYPE s = ARRAY [1 .. 999] OF RECORD x, y : INTEGER; END; TYPE o = OBJECT a, b, c, d, e : a; END; TYPE z = RECORD END; TYPE one = RECORD x : INTEGER; END;"
                + " VAR r : REF a; VAR n : REF INTEGER; VAR m : MUTEX; VAR c : CONDITION; VAR w : ROOT; VAR e : REF z; VAR k : REF one;";
        String nine = "FOR i := 1 TO 9 DO r := NEW(REF a); END; ";
        String[] small = {"n := NEW(REF INTEGER);", "m := NEW(MUTEX);", "c := NEW(CONDITION);", "w := NEW(OBJECT x : INTEGER; END);", "k := NEW(REF one);"};
        for (String s : small) {
            LevelUnits x = done(t, nine + "r := NEW(REF a); e := NEW(REF z); w := NEW(ROOT);\n" + s);
            failed(x, 0, 9, 4, s);
            T.due("count(10)", x.count(10), 20000);
            T.due("count(9)", x.count(9), 12);
            x = done(t, nine + s + " IF NEW(REF s) = NIL THEN END; " + s + "\n" + s);
            failed(x, 0, 9, 4, s);
            T.due("count(10)", x.count(10), 20000);
            x = done(t, nine + s + "\nr := NEW(REF a);");
            failed(x, 0, 9, 4, s);
            T.due("count(10)", x.count(10), 18001);
        }
        LevelUnits x = done(t, "w := NEW(o);\nw := NEW(o);\nw := NEW(ROOT);\ne := NEW(REF z);\nw := NEW(OBJECT x : INTEGER; END);");
        failed(x, 0, 9, 7, "two OBJECTs of 10000 CELLS");
        T.due("count(10)", x.count(10), 20000);
        T.due("inside(2, 9999)", x.inside(2, 9999), 0);
        x = done(t, "w := NEW(o); w := NEW(o OBJECT x : INTEGER; END);");
        failed(x, 0, 9, 3, "one of 10001");
        T.due("count(10)", x.count(10), 10000);
    }

    /** "60 calls of a thread within one another (its first one counts; units' STATEMENTS are none)". */
    private static void roomOfCalls() {
        String p = "VAR t : THREAD; PROCEDURE p (k : INTEGER) = BEGIN IF k > 1 THEN\np(k - 1); END; PUT k; END p; PROCEDURE q (k : INTEGER) = BEGIN p(k); p(k); END q;";
        LevelUnits x = done(p, "p(60); p(60);");
        T.due("thread(0, 0)", x.thread(0, 0), 4);
        T.due("count(12)", x.count(12), 120);
        fails(9, 3, p, "p(61);");
        x = done(p, "q(59);");
        T.due("thread(0, 0)", x.thread(0, 0), 4);
        fails(9, 3, p, "q(60);");
        x = done(p, "t := FORK p(60); t := FORK q(59);");
        T.due("thread(1, 0)", x.thread(1, 0), 4);
        T.due("thread(2, 0)", x.thread(2, 0), 4);
        x = done(p, "t := FORK p(61); JOIN t;");
        failed(x, 1, 9, 3, "FORK p(61)");
        // FORK at the last call is none within it
        x = done("VAR t : THREAD; PROCEDURE q () = BEGIN END q; PROCEDURE p (k : INTEGER) = BEGIN IF k > 1 THEN p(k - 1); ELSE t := FORK q();\nq(); END; END p;", "p(60);");
        failed(x, 0, 9, 3, "q() at the 60th call");
        T.due("count(7)", x.count(7), 2);
        x = T.running("MODULE M; " + p.replace("PUT k;", "LOOP END;") + " BEGIN p(60); END M.", 1);
        x.run(2000);
        T.due("thread(0, 2)", x.thread(0, 2), 60);
        T.due("count(11)", x.count(11), 60);
    }

    /** "2,000 CELLS of a thread's calls that stand open". */
    private static void roomOfCallCells() {
        String a = "TYPE a = ARRAY [1 .. 1000] OF INTEGER; TYPE h = ARRAY [1 .. 999] OF INTEGER; VAR v : a; VAR t : THREAD; VAR i : INTEGER;";
        String full = a + " PROCEDURE p () = VAR x, y : a; BEGIN\nz(); PUT 1; o(); END p; PROCEDURE z () = VAR x : RECORD END; BEGIN PUT 0; END z; PROCEDURE o () = VAR x : BOOLEAN; BEGIN PUT 9; END o;";
        fails(9, 3, full, "p();", 0, 1);
        LevelUnits x = done(full, "t := FORK p();");
        failed(x, 1, 9, 3, "FORK p()");
        T.output(x, 0, 1);
        fails(9, 3, a + " PROCEDURE p () = VAR x, y : a; VAR z : INTEGER; BEGIN END p;", "p();");
        fails(9, 3, a + " PROCEDURE p () = VAR x, y : a; VAR z : INTEGER; BEGIN END p;", "t := FORK p();");
        puts(a + " PROCEDURE p (u : a; VAR w : a; k : INTEGER) = VAR x : ARRAY [1 .. 998] OF INTEGER; BEGIN PUT k; END p;", "p(v, v, 3);", 3);
        fails(9, 3, a + " PROCEDURE p (u : a; VAR w : a; k : INTEGER) = VAR x : h; BEGIN PUT k; END p;", "p(v, v, 3);");
        fails(9, 3, a + " PROCEDURE p (u, w, x : a) = BEGIN END p;", "p(v, v, v);");
        fails(9, 3, a + " PROCEDURE p (u, w, x, y, z, k, l, m : RECORD b, c : a; END) = BEGIN END p; VAR g : RECORD b, c : a; END;", "p(g, g, g, g, g, g, g, g);");
        puts(a + " PROCEDURE p (VAR u, w, x : a) = VAR y : a; BEGIN u[1] := 4; w[2] := x[1]; y := x; PUT y[2]; END p;", "p(v, v, v);", 4);
        // those of calls that ended are gone
        puts(a + " PROCEDURE p () = VAR x, y : a; BEGIN x[1000] := 5; y := x; PUT y[1000]; END p;", "p(); p(); p();", 5, 5, 5);
        // each thread has its own
        x = done(a + " PROCEDURE p () = VAR x, y : a; BEGIN LOOP END; END p;", "t := FORK p(); t := FORK p(); p();");
        T.due("count(11)", x.count(11), 6000);
        T.due("count(5)", x.count(5), 1);
    }

    /** "64 threads made". */
    private static void roomOfThreads() {
        String p = "VAR t : THREAD; PROCEDURE p () = BEGIN END p; PROCEDURE q () = BEGIN LOOP END; END q;";
        for (String c : new String[] {"p", "q"}) {
            LevelUnits x = runAll("MODULE M; " + p + " BEGIN FOR k := 1 TO 63 DO t := FORK " + c + "(); END; PUT 1; END M.");
            T.due("count(7)", x.count(7), 64);
            T.due("thread(0, 0)", x.thread(0, 0), 4);
            T.due("cell(0)", x.cell(0), 64);
            T.due("thread(63, 0)", x.thread(63, 0), c.equals("p") ? 4 : 0);
            T.due("thread(64, 0)", x.thread(64, 0), -1);
            x = runAll("MODULE M; " + p + " BEGIN FOR k := 1 TO 64 DO\nt := FORK " + c + "(); END; PUT 1; END M.");
            failed(x, 0, 9, 2, "64 times FORK " + c);
            T.due("count(7)", x.count(7), 64);
            T.due("cell(0)", x.cell(0), 64);
        }
    }

    /** "11 The end of a PROCEDURE with a RESULT (the line of its END)". */
    private static void noReturn() {
        fails(11, 4, "VAR i : INTEGER; PROCEDURE p () : INTEGER = BEGIN\nPUT 1;\nEND\np;", "i := p();", 1);
        fails(11, 4, "VAR i : INTEGER; PROCEDURE p () : INTEGER = BEGIN\nIF i = 1 THEN RETURN 1; END;\nEND p;", "p();");
        fails(11, 3, "VAR i : INTEGER; PROCEDURE p () : INTEGER = BEGIN\nEND p;", "p();");
        puts("VAR i : INTEGER; PROCEDURE p () : INTEGER = BEGIN\nIF i = 1 THEN RETURN 1; END;\nEND p;", "i := 1; p(); PUT i;", 1);
        puts("PROCEDURE p () = BEGIN END p;", "p(); PUT 1;", 1);
        fails(11, 3, "PROCEDURE p () : INTEGER = BEGIN LOOP TRY RETURN 1; FINALLY EXIT; END; END; PUT 3;\nEND p;", "p();", 3);
    }

    /** "ENDED, when all threads are over; STANDS, when none is READY." */
    private static void howARunIs() {
        LevelUnits x = T.running("MODULE M; BEGIN PUT 1; END M.", 1);
        T.due("count(5)", x.count(5), 1);
        x.run(1);
        T.due("count(5)", x.count(5), 2);
        x = T.running("MODULE M; BEGIN END M.", 1);
        T.due("count(5)", x.count(5), 2);
        T.due("run(1)", x.run(1), 0);
        x = T.running("INTERFACE A; END A.", 1);
        T.due("count(5)", x.count(5), 2);
        T.due("thread(0, 0)", x.thread(0, 0), 4);
        // thread 0 is over, another one is not
        x = done("VAR t : THREAD; PROCEDURE p () = BEGIN LOOP END; END p;", "t := FORK p();");
        T.due("count(5)", x.count(5), 1);
        T.due("count(8)", x.count(8), 1);
        // one that WAITS for good, the others are over
        x = done("VAR t : THREAD; VAR m : MUTEX; PROCEDURE p () = BEGIN LOCK m DO LOCK m DO END; END; END p;", "m := NEW(MUTEX); t := FORK p();");
        T.due("count(5)", x.count(5), 3);
        T.due("count(8)", x.count(8), 1);
        T.due("run(3)", x.run(3), 0);
        // over at its end, whatever it did before: no line is told
        x = done("EXCEPTION e; VAR t : THREAD; PROCEDURE p () = BEGIN LOOP RETURN; END; END p; PROCEDURE q () = BEGIN TRY RAISE e(1); EXCEPT | e(v) => END; END q;", "t := FORK p(); t := FORK q(); JOIN t; LOOP EXIT; END;");
        for (int t = 0; t < 3; t++) {
            T.due("thread(" + t + ", 0)", x.thread(t, 0), 4);
            for (int what = 1; what <= 5; what++) {
                T.due("thread(" + t + ", " + what + ")", x.thread(t, what), what == 4 ? -1 : 0);
            }
        }
        // all FAILED is ENDED, too
        x = done("", "PUT 1 DIV 0;");
        T.due("count(5)", x.count(5), 2);
    }
}
