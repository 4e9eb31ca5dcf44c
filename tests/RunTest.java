/** Promises 10 to 13: begin, run, output, cell; what STATEMENTS do, a thread alone. */
final class RunTest {
    private static final Tell T = new Tell();
    private static final int ENDED = 2;

    public static void main(String[] args) {
        calls();
        numbers();
        acts();
        copies();
        procedures();
        methods();
        leaving();
        typecase();
        output();
        units();
        T.end("RunTest");
    }

    private static String thrown(LevelUnits x, int n) {
        try {
            x.run(n);
            return "";
        } catch (IllegalArgumentException e) {
            return "argument";
        } catch (IllegalStateException e) {
            return "state";
        }
    }

    private static boolean begins(LevelUnits x) {
        try {
            x.begin(1);
            return true;
        } catch (IllegalStateException e) {
            return false;
        }
    }

    private static void same(String call, String got, String want) {
        T.due(call + " throws " + got + ", due is " + want, got.equals(want) ? 1 : 0, 1);
    }

    private static void calls() {
        LevelUnits x = new LevelUnits();
        T.due("begin without a program", begins(x) ? 1 : 0, 0);
        same("run(-1)", thrown(x, -1), "argument");
        same("run(2001)", thrown(x, 2001), "argument");
        same("run(0)", thrown(x, 0), "state");
        Tell.feed(x, "MODULE M; VAR r : [3 .. 5]; BEGIN LOOP PUT r; END; END M.");
        T.due("read", x.read(), 0);
        same("run(2000)", thrown(x, 2000), "state");
        T.due("count(5)", x.count(5), 0);
        T.due("cell(0)", x.cell(0), 0);
        T.due("thread(0, 0)", x.thread(0, 0), LevelUnits.NONE);
        T.due("begin", begins(x) ? 1 : 0, 1);
        T.due("cell(0)", x.cell(0), 3);
        T.due("cell(1)", x.cell(1), 0);
        T.due("cell(-1)", x.cell(-1), 0);
        T.due("run(0)", x.run(0), 0);
        T.due("count(5)", x.count(5), 1);
        T.due("run(7)", x.run(7), 7);
        T.due("run(2000)", x.run(2000), 2000);
        T.due("count(6)", x.count(6), 2007);
        same("run(2001)", thrown(x, 2001), "argument");
        T.due("count(12)", x.count(12), 500);
        x.begin(7);
        T.due("count(6) anew", x.count(6), 0);
        T.due("count(12) anew", x.count(12), 0);
        T.due("output(0) anew", x.output(0), 0);
        Tell.feed(x, "MODULE");
        T.due("read", x.read(), 2 + 16);
        T.due("begin without a program", begins(x) ? 1 : 0, 0);
        same("run(1)", thrown(x, 1), "state");
        T.due("count(6)", x.count(6), 0);
        Tell.feed(x, "INTERFACE A; END A.");
        T.due("read", x.read(), 0);
        T.due("begin", begins(x) ? 1 : 0, 1);
        T.due("count(5) of no STATEMENTS", x.count(5), ENDED);
        T.due("run(5)", x.run(5), 0);
        T.due("thread(0, 0)", x.thread(0, 0), 4);
    }

    /** Runs to the end, in so many STEPS. */
    private static LevelUnits done(String told, String statements, int steps, int... output) {
        LevelUnits x = T.running("MODULE M; " + told + "\nBEGIN\n" + statements + "\nEND M.", 5);
        T.due("steps of " + statements, x.run(2000), steps);
        T.output(x, output);
        return x;
    }

    /** Ends with the FAULT in the line, 3 being the first one of the STATEMENTS. */
    private static void fails(int fault, int line, String told, String statements) {
        LevelUnits x = T.running("MODULE M; " + told + "\nBEGIN\n" + statements + "\nEND M.", 5);
        x.run(2000);
        T.due("state of " + statements, x.thread(0, 0), 6);
        T.due("FAULT of " + statements, x.thread(0, 4), fault);
        T.due("line of " + statements, x.thread(0, 1), line);
        T.due("calls of " + statements, x.thread(0, 2), 0);
        T.due("number of " + statements, x.thread(0, 5), 0);
        T.due("count(5)", x.count(5), ENDED);
        T.due("count(11)", x.count(11), 0);
    }

    private static void numbers() {
        done("", "PUT 7 DIV 2; PUT - 7 DIV 2; PUT 7 DIV - 2; PUT - 7 MOD 2; PUT 7 MOD - 2; PUT - 7 MOD - 2; PUT - 7 DIV - 2;", 7, 3, -4, -4, 1, -1, -1, 3);
        done("", "PUT 2 + 3 * 4 - 10 - 1; PUT - 2 * - 3; PUT (2 + 3) * 4; PUT 100 DIV 10 DIV 2; PUT - 2147483647 - 1;", 5, 3, 6, 20, 5, Integer.MIN_VALUE);
        done("", "PUT (- 2147483647 - 1) MOD - 1; PUT - (- 2147483647); PUT 2147483647 + 0;", 3, 0, 2147483647, 2147483647);
        String b = "VAR b : BOOLEAN;";
        LevelUnits x = done(b, "b := NOT FALSE OR FALSE AND FALSE;", 1);
        T.due("cell(0)", x.cell(0), 1);
        x = done(b, "b := NOT (1 = 1) OR (2 < 1) OR (1 >= 2);", 1);
        T.due("cell(0)", x.cell(0), 0);
        fails(1, 3, "", "PUT 2147483647 + 1;");
        fails(1, 4, "", "PUT 1;\nPUT - 2147483647 - 2;");
        fails(1, 3, "", "PUT 65536 * 32768;");
        fails(1, 3, "", "PUT - (- 2147483647 - 1);");
        fails(1, 3, "", "PUT (- 2147483647 - 1) DIV - 1;");
        fails(2, 3, "", "PUT 1 DIV 0;");
        fails(2, 3, "", "PUT 1 MOD 0;");
        // all of AND and OR is worked out
        fails(2, 3, b, "b := FALSE AND (1 DIV 0 = 1);");
        fails(2, 3, b, "b := TRUE OR (1 DIV 0 = 1);");
        String a = "VAR a : ARRAY [1 .. 2] OF [5 .. 9]; VAR f : REF INTEGER;";
        fails(3, 3, a, "a[0] := 5;");
        fails(3, 3, a, "a[3] := 5;");
        fails(4, 3, a, "a[1] := 10;");
        fails(4, 3, a, "a[1] := 4;");
        fails(5, 3, a, "f^ := 4;");
        // the PLACE first, then the E, then the value is held against the place
        fails(3, 3, a, "a[0] := 1 DIV 0;");
        fails(2, 3, a, "a[1] := 1 DIV 0;");
        fails(5, 3, a, "f^ := 1 DIV 0;");
        fails(3, 3, a, "a[1] := 100 + a[7];");
    }

    private static void acts() {
        // FOR is looked at 4 times, WHILE 3 times, LOOP twice
        done("VAR i : INTEGER;", "FOR k := 1 TO 3 DO PUT k; END;", 7, 1, 2, 3);
        done("VAR i : INTEGER;", "FOR k := 3 TO 2 DO PUT k; END;", 1);
        done("VAR i : INTEGER;", "FOR k := 2147483646 TO 2147483647 DO PUT k; END;", 5, 2147483646, 2147483647);
        done("VAR i : INTEGER;", "WHILE i < 2 DO i := i + 1; END; PUT i;", 6, 2);
        done("VAR i : INTEGER;", "LOOP i := i + 1; IF i = 2 THEN EXIT; END; END; PUT i;", 8, 2);
        done("", "TRY TRY FINALLY END; EXCEPT END; TRY PUT 1; FINALLY PUT 2; END;", 2, 1, 2);
        done("VAR i : INTEGER;", "IF i = 1 THEN PUT 1; ELSIF i = 0 THEN PUT 2; ELSIF TRUE THEN PUT 3; ELSE PUT 4; END;", 2, 2);
        done("VAR i : INTEGER;", "IF i = 1 THEN PUT 1; ELSE PUT 4; END; IF FALSE THEN PUT 1; END;", 3, 4);
        // E's in order up to the first TRUE one
        done("", "IF TRUE THEN ELSIF 1 DIV 0 = 1 THEN END;", 1);
        fails(2, 3, "", "IF FALSE THEN ELSIF 1 DIV 0 = 1 THEN END;");
        // both E's of a FOR at first
        done("VAR i : INTEGER;", "i := 2; FOR k := i TO i + 1 DO i := 100; PUT k; END;", 8, 2, 3);
        LevelUnits x = T.running("MODULE M; VAR i : INTEGER;\nBEGIN\nWHILE i < 1\nDO i :=\n1; END;\nPUT 1; END M.", 0);
        int[] lines = {3, 4, 3, 6, 0};
        for (int line : lines) {
            T.due("thread(0, 1)", x.thread(0, 1), line);
            x.run(1);
        }
        T.due("count(6)", x.count(6), 4);
    }

    private static void copies() {
        LevelUnits x = done("TYPE r = RECORD a, b : INTEGER; END; VAR v, w : r; VAR f : REF r; VAR y : ARRAY [0 .. 1] OF r;",
                "v.a := 1; v.b := 2; w := v; v.a := 3; f := NEW(REF r); f^ := w; f^.b := 4; y[1] := f^; y[0] := y[1]; y[1].a := 9; v := v;", 11);
        int[] cells = {3, 2, 1, 2, 1, 1, 4, 9, 4};
        for (int i = 0; i < cells.length; i++) {
            T.due("cell(" + i + ")", x.cell(i), cells[i]);
        }
        T.due("inside(1, 0)", x.inside(1, 0), 1);
        T.due("inside(1, 1)", x.inside(1, 1), 4);
        x = T.running("INTERFACE A; VAR a : INTEGER; END A. MODULE A; VAR b : [- 5 .. - 2]; VAR c : RECORD x : BOOLEAN; y : ARRAY [1 .. 2] OF [1 .. 7]; END; BEGIN END A.", 1);
        int[] firsts = {0, -2, 0, 1, 1, 0};
        for (int i = 0; i < firsts.length; i++) {
            T.due("first cell(" + i + ")", x.cell(i), firsts[i]);
        }
    }

    private static void procedures() {
        done("PROCEDURE f (n : INTEGER) : INTEGER = VAR m : INTEGER; BEGIN IF n = 0 THEN RETURN 1; END; m := f(n - 1); RETURN m * n; END f; VAR r : INTEGER;",
                "r := f(5); PUT r;", 19, 120);
        // parameters by value are copies, with VAR they are the place
        done("PROCEDURE p (a : INTEGER; VAR b : INTEGER; c : q; VAR d : q) = BEGIN a := 5; b := 6; c[1] := 7; d[1] := 8; END p;"
                + " TYPE q = ARRAY [0 .. 1] OF INTEGER; VAR x, y : INTEGER; VAR u, v : q;",
                "p(x, y, u, v); PUT x; PUT y; PUT u[1]; PUT v[1]; p(y, u[0], v, u); PUT u[0]; PUT u[1];", 16, 0, 6, 0, 8, 6, 8);
        // LOCALS begin anew, also with a RANGE without 0
        done("PROCEDURE p () = VAR a : INTEGER; VAR b : [3 .. 9]; BEGIN PUT a; PUT b; a := 4; b := 5; END p;", "p(); p();", 10, 0, 3, 0, 3);
        // VAR through calls, of a LOCAL and of a HANDLER's NAME
        done("PROCEDURE p (VAR a : INTEGER) = BEGIN a := a + 1; IF a < 4 THEN p(a); END; END p; EXCEPTION e;",
                "TRY RAISE e(2); EXCEPT | e(k) => p(k); PUT k; END;", 8, 4);
        // values of PROCEDUREs are their numbers
        LevelUnits x = done("PROCEDURE p () = BEGIN PUT 1; END p; PROCEDURE q () = BEGIN PUT 2; END q; VAR v, w : PROCEDURE ();",
                "v := q; v(); w := p; w(); v := w; v();", 9, 2, 1, 1);
        T.due("cell(0)", x.cell(0), 1);
        fails(10, 4, "VAR v : PROCEDURE (a : INTEGER);", "PUT 1;\nv(1 DIV 0);");
        // the PLACE ahead of := first
        fails(3, 3, "VAR v : PROCEDURE () : INTEGER; VAR a : ARRAY [0 .. 1] OF INTEGER;", "a[2] := v();");
        String p = "PROCEDURE p (a, b : [1 .. 3]) : [0 .. 9] =\nVAR i : INTEGER; BEGIN i := a * b;\nRETURN i + i;\nEND p; VAR r : [0 .. 5]; VAR s : INTEGER;";
        fails(4, 6, p, "p(4, 1 DIV 0);");
        fails(2, 6, p, "p(1, 1 DIV 0);");
        fails(4, 3, p, "s := p(3, 3);");
        fails(4, 7, p, "p(1, 1);\nr := p(1, 3);");
        done("PROCEDURE p () = BEGIN RETURN; PUT 1; END p;", "p(); PUT 2;", 3, 2);
        fails(11, 2, "PROCEDURE p () : INTEGER = BEGIN PUT 1;\nEND\np;", "p();");
        fails(11, 2, "PROCEDURE p () : INTEGER = BEGIN\nEND p;", "p();");
        done("PROCEDURE p () = BEGIN END p;", "p(); PUT 2;", 2, 2);
    }

    private static void methods() {
        String told = "TYPE a = OBJECT x : INTEGER; METHODS m (k : INTEGER) : INTEGER := am; n () := an; END;"
                + " TYPE b = a OBJECT y : INTEGER; OVERRIDES m := bm; END; TYPE c = b OBJECT METHODS n2 (); OVERRIDES n := cn; END;"
                + " TYPE d = c OBJECT m : INTEGER; METHODS n () := cn; END;"
                + " PROCEDURE am (s : a; k : INTEGER) : INTEGER = BEGIN RETURN s.x + k; END am;"
                + " PROCEDURE bm (s : b; k : INTEGER) : INTEGER = BEGIN RETURN s.y - k; END bm;"
                + " PROCEDURE an (s : a) = BEGIN s.x := 100; END an; PROCEDURE cn (s : ROOT) = BEGIN PUT 77; END cn; VAR v : a; VAR w : c; VAR z : d; VAR i : INTEGER;";
        done(told, "v := NEW(a); v.x := 1; i := v.m(5); PUT i; v.n(); PUT v.x;", 8, 6, 100);
        done(told, "w := NEW(c); w.x := 1; w.y := 2; v := w; i := v.m(5); PUT i; v.n();", 9, -3, 77);
        done(told, "z := NEW(d); z.m := 3; z.n(); v := z; v.n(); PUT z.m; i := v.m(1); PUT i;", 11, 77, 77, 3, -1);
        fails(10, 5, told, "w := NEW(c);\nPUT 1;\nw.n2();");
        fails(5, 3, told, "i := v.m(1 DIV 0);");
        fails(5, 3, told, "v.x := 1;");
        fails(6, 4, told, "v := NEW(a);\nw := v;");
        fails(6, 4, told, "v := NEW(a);\nv := NARROW(v, b);");
        done(told, "v := NIL; w := v; v := NEW(c); w := v; v := NARROW(v, b); IF ISTYPE(v, c) AND ISTYPE(NIL, d) AND NOT ISTYPE(v, d) THEN PUT 1; END;", 7, 1);
    }

    private static void leaving() {
        String e = "EXCEPTION e; EXCEPTION g; VAR m : MUTEX; PROCEDURE p (k : INTEGER) : INTEGER RAISES { e, g } =\nVAR l : INTEGER; BEGIN\n"
                + "TRY LOCK m DO IF k = 1 THEN RAISE e(k + 10); ELSIF k = 2 THEN RETURN 20; ELSIF k = 3 THEN RAISE g(3); END; END; FINALLY PUT k; END; RETURN 30; END p; VAR r : INTEGER;";
        done(e, "m := NEW(MUTEX); TRY r := p(1); PUT r; EXCEPT | e(v) => PUT v; END;", 7, 1, 11);
        done(e, "m := NEW(MUTEX); TRY r := p(2); PUT r; EXCEPT | e(v) => PUT v; END;", 7, 2, 20);
        done(e, "m := NEW(MUTEX); TRY r := p(0); PUT r; EXCEPT | e(v) => PUT v; END;", 7, 0, 30);
        LevelUnits x = done(e, "m := NEW(MUTEX); TRY r := p(3); EXCEPT | e(v) => PUT v; ELSE PUT 9; END;", 7, 3, 9);
        T.due("count(13)", x.count(13), 0);
        T.due("thing(1, 2)", x.thing(1, 2), LevelUnits.NONE);
        // what leaves FINALLY's STATEMENTS takes the place of what was on its way
        done(e, "TRY TRY RAISE e(1); FINALLY RAISE g(2); END; EXCEPT | e(v) => PUT v; | g(v) => PUT v * 10; END;", 3, 20);
        done(e, "LOOP TRY RAISE e(1); FINALLY EXIT; END; END; PUT 5;", 4, 5);
        done(e, "LOOP TRY EXIT; FINALLY PUT 1; END; END; PUT 5;", 4, 1, 5);
        done("PROCEDURE q () : INTEGER = BEGIN TRY RETURN 1; FINALLY RETURN 2; END; END q; VAR r : INTEGER;", "r := q(); PUT r;", 4, 2);
        done("PROCEDURE q () : INTEGER = BEGIN TRY TRY RETURN 1; FINALLY PUT 8; END; FINALLY PUT 9; END; END q; VAR r : INTEGER;", "r := q(); PUT r;", 5, 8, 9, 1);
        // a loop within FINALLY keeps what is on its way
        done(e, "TRY TRY RAISE e(1); FINALLY LOOP TRY EXIT; FINALLY PUT 2; END; END; END; EXCEPT | e(v) => PUT v; END;", 5, 2, 1);
        // a HANDLER is not within its own TRY
        done(e, "TRY TRY RAISE e(1); EXCEPT | e(v) => RAISE e(v + 1); END; EXCEPT | e(v) => PUT v; END;", 3, 2);
        x = T.running("MODULE M; " + e + "\nBEGIN\nTRY\nRAISE\ng(7); EXCEPT | e(v) => END; PUT 1; END M. MODULE N; BEGIN PUT 2; END N.", 3);
        T.due("run(9)", x.run(9), 1);
        T.due("state", x.thread(0, 0), 5);
        T.due("line", x.thread(0, 1), 6);
        T.due("EXCEPTION", x.thread(0, 4), 1);
        T.due("number", x.thread(0, 5), 7);
        T.output(x);
        // the line is that of the RAISE, behind FINALLY, too
        x = T.running("MODULE M; EXCEPTION e; PROCEDURE p () RAISES { e } = BEGIN\nTRY RAISE e(1); FINALLY\nPUT 1;\nEND; END p; BEGIN p(); END M.", 3);
        x.run(9);
        T.due("line", x.thread(0, 1), 2);
        T.due("calls", x.thread(0, 2), 0);
        // FAULTS do no FINALLY
        x = T.running("MODULE M; EXCEPTION e; BEGIN TRY PUT 1 DIV 0; FINALLY PUT 2; END; END M.", 3);
        T.due("run(9)", x.run(9), 1);
        T.output(x);
    }

    private static void typecase() {
        String told = "TYPE a = OBJECT x : INTEGER; END; TYPE b = a OBJECT END; TYPE c = a OBJECT y : INTEGER; END; VAR v : a;";
        String of = " TYPECASE v OF | b (k) => PUT 1; | c (k) => k.y := 5; PUT k.y; k := NIL; | a (k) => PUT 3; END;";
        done(told, "v := NEW(a);" + of, 3, 3);
        done(told, "v := NEW(b);" + of, 3, 1);
        done(told, "v := NEW(c);" + of + " PUT v.x;", 6, 5, 0);
        done(told, of, 2, 1);
        fails(7, 4, told, "v := NEW(a);\nTYPECASE v OF | b (k) => END;");
        fails(7, 3, told, "TYPECASE v OF END;");
        done(told, "TYPECASE v OF ELSE PUT 4; END;", 2, 4);
        fails(6, 4, told, "v := NEW(c); TYPECASE v OF | c (k) =>\nk := NARROW(NEW(a), c); END;");
        // types are what they are by their shapes
        done(told + " TYPE d = a OBJECT y : INTEGER; END; VAR w : d;", "v := NEW(c); w := v; TYPECASE v OF | b (k) => | d (k) => PUT 6; END;", 4, 6);
    }

    private static void output() {
        LevelUnits x = T.running("MODULE M; BEGIN FOR i := 1 TO 600 DO PUT i; END; END M.", 1);
        T.due("run", x.run(2000), 1201);
        T.due("count(12)", x.count(12), 500);
        T.due("output(499)", x.output(499), 500);
        T.due("output(500)", x.output(500), 0);
        T.due("output(-1)", x.output(-1), 0);
    }

    private static void units() {
        LevelUnits x = T.running("MODULE A; BEGIN PUT 1; END A. INTERFACE B; VAR v : INTEGER; PROCEDURE p (); END B."
                + " MODULE C; IMPORT B; BEGIN TRY FINALLY END; END C. MODULE D; IMPORT B; BEGIN B.v := 4; B.p(); END D."
                + " MODULE B; PROCEDURE p () = BEGIN PUT v; END p; BEGIN PUT 9; END B.", 1);
        T.due("run", x.run(2000), 5);
        T.output(x, 1, 4, 9);
        T.due("count(5)", x.count(5), ENDED);
    }
}
