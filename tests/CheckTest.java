/** FAULTS 12 to 15: types in STATEMENTS, parameters, what can't be there, EXCEPTIONs. */
final class CheckTest {
    private static final Tell T = new Tell();

    private static final String TOLD = "MODULE M; EXCEPTION e; EXCEPTION g; TYPE rec = RECORD f : INTEGER; h : o; END;"
            + " TYPE o = OBJECT x : INTEGER; q : PROCEDURE (k : INTEGER); METHODS m (k : INTEGER) : INTEGER; END;"
            + " TYPE o2 = o OBJECT x : BOOLEAN; END; TYPE o3 = ROOT OBJECT y : INTEGER; END;"
            + " VAR i, j : INTEGER; VAR b : BOOLEAN; VAR r : [0 .. 9]; VAR v : rec; VAR a : ARRAY [1 .. 3] OF INTEGER; VAR ab : ARRAY [1 .. 3] OF BOOLEAN;"
            + " VAR w : o; VAR w2 : o2; VAR w3 : o3; VAR ro : ROOT; VAR fi : REF INTEGER; VAR fb : REF BOOLEAN; VAR mu : MUTEX; VAR co : CONDITION; VAR th : THREAD;"
            + " VAR pr : PROCEDURE (k : INTEGER) : INTEGER; VAR pn : PROCEDURE ();"
            + " PROCEDURE p (k : INTEGER) : INTEGER = BEGIN RETURN k; END p; PROCEDURE n () = BEGIN END n;"
            + " PROCEDURE s (k : INTEGER; VAR l : INTEGER; VAR z : rec) = BEGIN END s; PROCEDURE t (z : rec; c : o; d : [1 .. 2]) = BEGIN END t;";

    /** The STATEMENTS stand in line 2, then in line 3 and so on, in a LOOP of line 1 or not. */
    private static void done(int code, int line, String statements) {
        T.reading(TOLD + " BEGIN\n" + statements + "\nEND M.", code == 0 ? 0 : code + 16 * line);
    }

    private static void good(String... statements) {
        for (String s : statements) {
            done(0, 0, s);
        }
    }

    private static void bad(int code, String... statements) {
        for (String s : statements) {
            done(code, 2, s);
        }
    }

    public static void main(String[] args) {
        operators();
        places();
        kinds();
        assignable();
        calls();
        returns();
        neverThere();
        exceptions();
        order();
        T.end("CheckTest");
    }

    private static void operators() {
        good("b := (i < r) AND NOT (r >= 2) OR (i = r);", "i := - r + a[r] * 2 DIV i MOD j;", "b := b = (i # 2);",
                "b := mu = NIL; b := NIL # pr; b := NIL = NIL; b := w = w2; b := w2 = w; b := ro = w3; b := p = pr; b := pn = n; b := th # th;",
                "b := fi = NIL; b := ISTYPE(w, o2) AND ISTYPE(w2, o) AND ISTYPE(NIL, o3); w2 := NARROW(w, o2);");
        bad(12, "b := i AND b;", "b := b OR 1;", "b := NOT i;", "i := b + 1;", "i := 1 * NIL;", "i := - b;", "b := b < b;", "i := w MOD 2;",
                "b := b = i;", "b := i = NIL;", "b := v = v;", "b := a # a;", "b := w = w3;", "b := fi = fb;", "b := p = n;", "b := mu = co;",
                "b := mu = w;", "b := NIL = TRUE;", "b := ISTYPE(w, o3);", "b := ISTYPE(i, o);", "b := ISTYPE(w, INTEGER);", "b := ISTYPE(mu, MUTEX);",
                "b := ISTYPE(NIL, INTEGER);", "w := NARROW(w3, o);", "b := w = (1 = 2);");
    }

    private static void places() {
        good("i := v.f; v.h.x := 1; w2.x := TRUE; w.x := 3; i := v.h.x;", "fi^ := fi^ + 1;", "a[r] := a[a[1]]; a[fi^] := 2;", "i := a[100];");
        bad(12, "i := v.g;", "i := i.f;", "i := w.y;", "w2.x := 1;", "i := i^;", "i := w^;", "i := v^.f;", "i := v[1];", "i := a[b];", "i := a[NIL];",
                "i := a.f;", "a[1][1] := 1;", "i := p.f;", "i := p[1];", "i := p^;", "i := mu.x;");
        // the FIELDS that the unit sees, from the type itself on upwards
        String a = "INTERFACE A; TYPE pub = OBJECT f : INTEGER; END; TYPE p <: pub; VAR v : p; END A.\nMODULE A; REVEAL p = pub OBJECT g : INTEGER; END; BEGIN v := NEW(p); v.g := v.f; END A.\n";
        T.reading(a, 0);
        T.reading(a + "MODULE B; IMPORT A; BEGIN A.v.f := 1; A.v := NIL; END B.", 0);
        T.fault(12, 3, a + "MODULE B; IMPORT A; BEGIN A.v.g := 1; END B.");
        T.fault(12, 3, a + "MODULE B; IMPORT A; BEGIN A.v := NEW(A.p); END B.");
        T.reading(a + "MODULE B; IMPORT A; TYPE s = A.p OBJECT END; BEGIN A.v := NEW(s); END B.", 0);
    }

    private static void kinds() {
        good("IF b THEN ELSIF b THEN END; WHILE b DO END; FOR k := r TO i DO PUT k; END; PUT r; RAISE e(r);",
                "LOCK mu DO WAIT mu, co; END; SIGNAL co; BROADCAST co; JOIN th; th := FORK n();", "LOCK NIL DO END; JOIN NIL; SIGNAL NIL; WAIT NIL, NIL;",
                "TYPECASE w OF | o2 (z) => z.x := b; | o (z) => z.x := 1; END; TYPECASE NIL OF | o (z) => | o3 (z) => END; TYPECASE ro OF | ROOT (z) => END;",
                "fi := NEW(REF INTEGER); w := NEW(o2); ro := NEW(ROOT); mu := NEW(MUTEX); co := NEW(CONDITION); ro := NEW(OBJECT END);");
        bad(12, "IF i THEN END;", "IF b THEN ELSIF 1 THEN END;", "WHILE NIL DO END;", "FOR k := b TO 1 DO END;", "FOR k := 1 TO mu DO END;", "PUT b;",
                "RAISE e(b);", "LOCK co DO END;", "LOCK i DO END;", "WAIT co, mu;", "WAIT mu, mu;", "SIGNAL mu;", "BROADCAST th;", "JOIN mu;", "i := FORK n();",
                "mu := FORK n();", "TYPECASE i OF END;", "TYPECASE mu OF END;", "TYPECASE w OF | o3 (z) => END;", "TYPECASE w OF | INTEGER (z) => END;",
                "i := NEW(INTEGER);", "v := NEW(rec);", "th := NEW(THREAD);", "pn := NEW(PROCEDURE ());", "a := NEW(ARRAY [1 .. 3] OF INTEGER);");
        // the line is that of the innermost STATEMENT
        done(12, 4, "IF b THEN\nPUT 1;\nPUT\nb; END;");
        done(12, 2, "IF b THEN\nELSIF\n1 THEN PUT 2; END;");
    }

    private static void assignable() {
        good("i := r; r := i; r := 100;", "w := w2; w2 := w; ro := w3; w3 := ro;", "v := v; a := a;", "mu := NIL; th := NIL; fi := NIL; w := NIL; pr := NIL;",
                "pr := p; pn := n; pr := pr;");
        bad(12, "i := b;", "b := 1;", "i := NIL;", "v := NIL;", "w := w3;", "w3 := w2;", "fi := fb;", "a := ab;", "mu := co;", "pr := n;", "pn := p;",
                "v := a;", "w := fi;", "r := b;");
        T.reading("MODULE M; EXCEPTION e; VAR v : PROCEDURE () RAISES { e }; VAR w : PROCEDURE (); PROCEDURE p () = BEGIN END p; BEGIN v := p; v := w; END M.", 0);
        T.fault(12, 2, "MODULE M; EXCEPTION e; VAR v : PROCEDURE () RAISES { e }; VAR w : PROCEDURE (); BEGIN\nw := v; END M.");
    }

    private static void calls() {
        good("i := p(1); p(r); r := p(a[1]); n(); i := pr(2); pr(3); pn(); i := w.m(1); w2.m(r); w.q(1);", "s(1, i, v); s(r, a[1], v); s(1, fi^, v); s(1, w.x, v);",
                "t(v, w2, i); t(v, NIL, r);", "th := FORK p(1); th := FORK w.m(1); th := FORK pr(1); a[1] := p(1);");
        bad(12, "i := n();", "b := p(1);", "i := p(b);", "s(1, r, v);", "s(1, 2, v);", "s(1, (i), v);", "s(1, i + 1, v);", "s(1, b, v);", "s(1, i, NIL);",
                "t(v, w3, 1);", "t(a, w, 1);", "i(1);", "v.f(1);", "w(1);", "w.k(1);", "mu();", "i := w.q(1);", "th := FORK i(1);", "p(1 + TRUE);", "i := pn();");
        bad(13, "p();", "p(1, 2);", "n(1);", "i := p();", "w.m();", "w.m(1, 2);", "pr();", "th := FORK p();", "s(1, i);");
        // types are looked at as far as both go
        bad(12, "p(b, 2);", "t(v, 1);");
        bad(13, "p(1, 1 + TRUE);");
        good("t(v, w, 7);");
    }

    private static void returns() {
        String[] fine = {"() = BEGIN RETURN; END p;", "() : INTEGER = BEGIN RETURN r; END p;", "() : [0 .. 1] = BEGIN RETURN 5; END p;",
            "() : o = BEGIN RETURN NIL; END p;", "() : o2 = VAR z : o; BEGIN RETURN z; END p;", "() : INTEGER = BEGIN END p;"};
        String[] wrong = {"() = BEGIN RETURN 1; END p;", "() : INTEGER = BEGIN RETURN; END p;", "() : INTEGER = BEGIN RETURN TRUE; END p;",
            "() : o = BEGIN RETURN r; END p;", "() : INTEGER = BEGIN RETURN NIL; END p;"};
        String m = "MODULE M; VAR r : [0 .. 9]; TYPE o = OBJECT END; TYPE o2 = o OBJECT END; PROCEDURE p\n";
        for (String f : fine) {
            T.reading(m + f + " BEGIN END M.", 0);
        }
        for (String w : wrong) {
            T.fault(12, 2, m + w + " BEGIN END M.");
        }
        T.fault(14, 1, "MODULE M; BEGIN RETURN; END M.");
        T.fault(14, 1, "MODULE M; BEGIN RETURN 1; END M.");
        T.fault(12, 1, "MODULE M; BEGIN RETURN 1 + TRUE; END M.");
    }

    private static void neverThere() {
        good("LOOP EXIT; END; WHILE b DO TRY EXIT; FINALLY EXIT; END; END; FOR k := 1 TO 2 DO IF b THEN EXIT; END; END;", "LOOP LOCK mu DO EXIT; END; END;");
        bad(14, "EXIT;", "IF b THEN EXIT; END;", "TRY EXIT; FINALLY END;", "FOR k := 1 TO 2 DO k := 1; END;", "p := pr;", "p := p;", "n := 1;", "w.m := pr;",
                "i := w.m;", "pr := w.m;", "i := w.m.x;", "i := w.m + 1;", "w.m.x := 1;", "w.m.x(1);", "w.m[1](2);", "p := FORK n();", "p := p(1);",
                "FOR k := 1 TO 2 DO k := p(k); END;", "FOR k := 1 TO 2 DO s(1, k, v); END;", "th := FORK s(1, i, v);", "PUT w.m;", "b := w.m = w3;");
        done(14, 2, "FOR k := 1 TO 2 DO k := FORK n(); END;");
        // what has such a FAULT has no type, and fits
        bad(14, "w.m := TRUE;", "FOR k := 1 TO 2 DO k := TRUE; END;", "b := w.m;");
        bad(12, "i := w.m + TRUE;", "FOR k := 1 TO 2 DO PUT k + b; END;");
        T.fault(14, 1, "MODULE M; PROCEDURE p () = BEGIN EXIT; END p; BEGIN LOOP p(); END; END M.");
        T.fault(14, 2, "MODULE M; PROCEDURE v (VAR x : PROCEDURE ()) = BEGIN END v; PROCEDURE p () = BEGIN END p; BEGIN\nv(p); END M.");
        // the NAMEs of HANDLERS and BRANCHES are places
        good("TRY EXCEPT | e(k) => k := 2; s(k, k, v); END; TYPECASE w OF | o2 (z) => z := NIL; END;");
    }

    private static void exceptions() {
        String m = "MODULE M; EXCEPTION e; EXCEPTION g; PROCEDURE q () RAISES { e, g } = BEGIN END q; VAR pe : PROCEDURE () RAISES { e }; VAR b : THREAD;"
                + " TYPE o = OBJECT METHODS m () RAISES { g }; END; VAR w : o;\n";
        String end = " END p; BEGIN END M.";
        String[] fine = {"() RAISES { e } = BEGIN RAISE e(1);", "() = BEGIN TRY RAISE e(1); EXCEPT | e(v) => END;", "() = BEGIN TRY q(); EXCEPT ELSE END;",
            "() = BEGIN TRY q(); EXCEPT | g(v) => | e(v) => END;", "() RAISES { g } = BEGIN TRY q(); EXCEPT | e(v) => RAISE g(v); END;", "() = BEGIN b := FORK q();",
            "() RAISES { g } = BEGIN w.m();", "() = BEGIN TRY TRY q(); FINALLY pe(); END; EXCEPT | e(v) => | g(v) => END;"};
        String[] wrong = {"() = BEGIN\nRAISE e(1);", "() RAISES { g } = BEGIN\nRAISE e(1);", "() RAISES { e } = BEGIN\nq();", "() = BEGIN\npe();", "() RAISES { e } = BEGIN\nw.m();",
            "() = BEGIN TRY TRY EXCEPT | e(v) =>\nRAISE e(1); END; FINALLY END;", "() = BEGIN TRY EXCEPT | g(v) => ELSE\nRAISE e(1); END;",
            "() = BEGIN TRY\nq(); EXCEPT | g(v) => END;", "() = BEGIN TRY FINALLY\nRAISE g(1); END;", "() = BEGIN TRY\nRAISE g(1); FINALLY END;"};
        for (String f : fine) {
            T.reading(m + "PROCEDURE p " + f + end, 0);
        }
        for (String w : wrong) {
            T.fault(15, 3, m + "PROCEDURE p " + w + end);
        }
        T.reading(m + "BEGIN RAISE e(1); q(); w.m(); END M.", 0);
        T.fault(15, 3, m + "BEGIN TRY EXCEPT | e(v) => | g(v) => |\ne(v) => END; END M.");
        T.reading(m + "BEGIN TRY EXCEPT | e(v) => TRY EXCEPT | e(v) => END; END; END M.", 0);
    }

    private static void order() {
        done(12, 3, "i := 1;\ni := b; EXIT;\ni := b;");
        done(12, 2, "EXIT; i := b; p();");
        done(13, 2, "EXIT; p();");
        done(14, 2, "EXIT;\ni := b;");
        T.fault(14, 3, "MODULE M; EXCEPTION e; PROCEDURE p () = BEGIN\nRAISE e(1);\nEXIT; END p; BEGIN END M.");
        T.fault(11, 3, "INTERFACE A;\nTYPE t = INTEGER;\nPROCEDURE p (); END A.\nMODULE M;\nBEGIN PUT TRUE; END M.");
    }
}
