/** "2. RULES", NAMES and the first round: FAULTS 5 to 7, each with what is still no FAULT; the lines of all FAULTS. */
final class NamesEdgesTest {
    private static final Tell T = new Tell();
    private static final String A = "INTERFACE A; TYPE t = INTEGER; VAR v : INTEGER; EXCEPTION e; PROCEDURE p (); END A. MODULE A; PROCEDURE p () = BEGIN END p; BEGIN END A.\n";

    public static void main(String[] args) {
        knownInAll();
        imported();
        interfaceBehind();
        whichIsMeant();
        formalsAndLocals();
        innermost();
        variables();
        thereAlready();
        fieldsAndMethods();
        notKnown();
        standsWrong();
        linesOfNames();
        linesOfOthers();
        rounds();
        T.end("NamesEdgesTest");
    }

    private static void good(String text) {
        T.reading(text, 0);
    }

    /** DECLARATIONS in line 2, and what is told and done in line 3. */
    private static void module(int code, int line, String told, String more) {
        T.reading("MODULE M;\n" + told + "\n" + more + " END M.", code == 0 ? 0 : code + 16 * line);
    }

    /** "A unit's DECLARATIONS are known in all of it, whatever their order, and, if it is an INTERFACE, in the MODULE of the same NAME, too." */
    private static void knownInAll() {
        good("MODULE M; PROCEDURE p () RAISES { e } = VAR l : t; BEGIN q(); x := l; RAISE e(1); END p; VAR x : t; PROCEDURE q () = BEGIN END q; EXCEPTION e; TYPE t = u; TYPE u = INTEGER; BEGIN END M.");
        good("INTERFACE A; VAR x : t; TYPE t = REF u; TYPE u = [0 .. 1]; END A. MODULE A; VAR y : t; BEGIN y := x; END A.");
        // another MODULE, or an INTERFACE of another NAME, does not know it
        T.fault(6, 2, "INTERFACE A; TYPE t = INTEGER; END A.\nMODULE B; VAR x : t; BEGIN END B.");
        T.fault(6, 2, "INTERFACE A; TYPE t = INTEGER; END A.\nINTERFACE B; VAR x : t; END B.");
        // what a MODULE tells is not known in its INTERFACE
        T.fault(6, 1, "INTERFACE A; VAR x : t; END A.\nMODULE A; TYPE t = INTEGER; BEGIN END A.");
        T.fault(6, 3, "INTERFACE A; END A. MODULE A; TYPE t = INTEGER; BEGIN END A.\nMODULE B; IMPORT A;\nVAR x : A.t; BEGIN END B.");
    }

    /** "An imported NAME is that of an INTERFACE that stands ahead (6), not its own one (5)". */
    private static void imported() {
        good("INTERFACE A; END A.\nINTERFACE B; IMPORT A; END B.");
        T.fault(6, 1, "INTERFACE B; IMPORT A; END B.\nINTERFACE A; END A.");
        T.fault(6, 2, "MODULE A; BEGIN END A.\nINTERFACE B; IMPORT A; END B.");
        T.fault(6, 1, "INTERFACE B; IMPORT C; END B.");
        T.fault(5, 1, "INTERFACE B; IMPORT B; END B.");
        T.fault(5, 2, "INTERFACE B; END B.\nMODULE B; IMPORT B; BEGIN END B.");
        T.fault(5, 1, "MODULE B; IMPORT B; BEGIN END B.");
        // "what that tells is known by NAME . NAME (not what it imports; another one is 6; the imported NAME alone 7)"
        good(A + "MODULE M; IMPORT A; VAR x : A.t; PROCEDURE q () RAISES { A.e } = BEGIN RAISE A.e(A.v); END q; BEGIN A.v := x; A.p(); TRY q(); EXCEPT | A.e(y) => END; END M.");
        T.fault(6, 2, A + "MODULE M; IMPORT A; VAR x : t; BEGIN END M.");
        T.fault(6, 2, A + "MODULE M; IMPORT A; BEGIN v := 1; END M.");
        T.fault(6, 2, A + "MODULE M; IMPORT A; BEGIN A.w := 1; END M.");
        T.fault(6, 2, A + "MODULE M; IMPORT A; PROCEDURE q () RAISES { A.f } = BEGIN END q; BEGIN END M.");
        T.fault(7, 2, A + "MODULE M; IMPORT A; VAR x : A; BEGIN END M.");
        T.fault(7, 2, A + "MODULE M; IMPORT A; BEGIN PUT A; END M.");
        T.fault(7, 2, A + "MODULE M; IMPORT A; BEGIN A[1] := 2; END M.");
        T.fault(7, 2, A + "MODULE M; IMPORT A; BEGIN A^ := 2; END M.");
        T.fault(7, 2, A + "MODULE M; IMPORT A; BEGIN RAISE A(1); END M.");
        T.fault(7, 2, A + "MODULE M; IMPORT A; TYPE x = A OBJECT END; BEGIN END M.");
        T.fault(6, 2, A + "INTERFACE B; IMPORT A; END B. MODULE M; IMPORT B; VAR x : B.A; BEGIN END M.");
        T.fault(6, 2, A + "INTERFACE B; IMPORT A; END B. MODULE M; IMPORT B; VAR x : A.t; BEGIN END M.");
        T.fault(6, 2, A + "INTERFACE B; IMPORT A; END B. MODULE B; VAR x : A.t; BEGIN END B.");
        good(A + "INTERFACE B; IMPORT A; END B. MODULE B; IMPORT A; VAR x : A.t; BEGIN END B.");
    }

    /** "The INTERFACE of a MODULE stands ahead of it (one behind it: 5 at its NAME; what that tells is not known in the MODULE)." */
    private static void interfaceBehind() {
        good("INTERFACE A; END A.\nMODULE A; BEGIN END A.");
        T.fault(5, 3, "MODULE A; BEGIN END A.\nINTERFACE\nA; END A.");
        T.fault(6, 2, "MODULE A;\nVAR x : t; BEGIN END A.\nINTERFACE A; TYPE t = INTEGER; END A.");
        T.fault(6, 2, "MODULE A; BEGIN\nx := 1; END A.\nINTERFACE A; VAR x : INTEGER; END A.");
        T.fault(5, 3, "MODULE A;\nVAR x : INTEGER; BEGIN END A.\nINTERFACE A; VAR x : INTEGER; END A.");
        T.fault(5, 2, "INTERFACE A; END A.\nINTERFACE A; END A.\nMODULE A; BEGIN END A.");
        T.fault(5, 3, "INTERFACE A; END A.\nMODULE A; BEGIN END A.\nMODULE A; BEGIN END A.");
        T.fault(5, 3, "INTERFACE A; END A.\nMODULE A; BEGIN END A.\nINTERFACE A; END A.");
        // of an INTERFACE that is there twice the first one is meant
        T.fault(6, 1, "INTERFACE A; TYPE t = INTEGER; END A. MODULE B; IMPORT A; VAR x : A.u; BEGIN END B.\nINTERFACE A; TYPE u = INTEGER; END A.");
    }

    /** "Of a NAME that is told twice (5) an import is meant first, then the unit's own first one, then its INTERFACE's". */
    private static void whichIsMeant() {
        String i = "INTERFACE A; TYPE y = INTEGER; END A.\n";
        T.fault(7, 2, i + "MODULE M; IMPORT A; VAR x : A;\nTYPE A = INTEGER; BEGIN END M.");
        T.fault(5, 3, i + "MODULE M; IMPORT A; VAR x : A.y;\nTYPE A = INTEGER; BEGIN END M.");
        T.fault(7, 2, "MODULE M;\nVAR v : x;\nVAR x : INTEGER;\nTYPE x = INTEGER; BEGIN END M.");
        T.fault(5, 4, "MODULE M;\nVAR v : x;\nTYPE x = INTEGER;\nVAR x : INTEGER; BEGIN END M.");
        T.fault(7, 2, i + "MODULE A; VAR v : y;\nVAR y : INTEGER; BEGIN END A.");
        T.fault(5, 3, "INTERFACE A; VAR y : INTEGER; END A.\nMODULE A; VAR v : y;\nTYPE y = INTEGER; BEGIN END A.");
    }

    /** "FORMALs and LOCALS are known in their PROCEDURE". */
    private static void formalsAndLocals() {
        good("MODULE M; PROCEDURE p (f : INTEGER) = VAR l : INTEGER; BEGIN l := f; END p; PROCEDURE q (f : BOOLEAN) = VAR l : BOOLEAN; BEGIN l := f; END q; BEGIN END M.");
        T.fault(6, 2, "MODULE M; PROCEDURE p (f : INTEGER) = BEGIN END p; PROCEDURE q () = BEGIN\nPUT f; END q; BEGIN END M.");
        T.fault(6, 2, "MODULE M; PROCEDURE p () = VAR l : INTEGER; BEGIN END p; BEGIN\nPUT l; END M.");
        T.fault(6, 2, "MODULE M; TYPE t = PROCEDURE (f : INTEGER); BEGIN\nPUT f; END M.");
        T.fault(6, 2, "INTERFACE A; PROCEDURE p (f : INTEGER); END A. MODULE A; PROCEDURE p (g : INTEGER) = BEGIN\nPUT f; END p; BEGIN END A.");
        // these ahead of all others; QNAMEs are looked up in the unit alone
        good("MODULE M; TYPE x = INTEGER; EXCEPTION y; PROCEDURE p (x, y : BOOLEAN) RAISES { y } = VAR z : x; BEGIN x := y; z := 1; RAISE y(z); END p; BEGIN END M.");
        good("MODULE M; TYPE x = OBJECT END; EXCEPTION y; BEGIN FOR x := 1 TO 2 DO FOR y := 1 TO 2 DO TRY PUT x + y; EXCEPT | y(e) => IF ISTYPE(NEW(x), x) THEN END; END; END; END; END M.");
        T.fault(6, 2, "MODULE M; PROCEDURE p (t : INTEGER) =\nVAR z : t; BEGIN END p; BEGIN END M.");
        T.fault(7, 2, "MODULE M; TYPE t = INTEGER; PROCEDURE p () = VAR z : t; BEGIN\nt := 1; END p; BEGIN END M.");
    }

    /** "the NAMEs of FOR, HANDLERS, BRANCHES in their STATEMENTS; the innermost one is meant". */
    private static void innermost() {
        String m = "MODULE M; EXCEPTION e; EXCEPTION g; VAR b : BOOLEAN; BEGIN\n";
        T.fault(6, 2, m + "FOR k := k TO 2 DO END; END M.");
        T.fault(6, 2, m + "FOR k := 1 TO k DO END; END M.");
        good(m + "FOR k := 1 TO 2 DO PUT k; END; END M.");
        T.fault(6, 3, m + "FOR k := 1 TO 2 DO PUT k; END;\nPUT k; END M.");
        T.fault(6, 3, m + "TRY\nPUT k; EXCEPT | e(k) => PUT k; END; END M.");
        T.fault(6, 3, m + "TRY EXCEPT | e(k) => PUT k; | g(j) =>\nPUT k; END; END M.");
        T.fault(6, 3, m + "TRY EXCEPT | e(k) => PUT k; ELSE\nPUT k; END; END M.");
        T.fault(6, 3, m + "TRY EXCEPT | e(k) => PUT k; END;\nPUT k; END M.");
        T.fault(6, 2, m + "TYPECASE k OF | ROOT (k) => END; END M.");
        T.fault(6, 3, m + "TYPECASE NIL OF | ROOT (k) => k := NIL; | ROOT (j) =>\nk := NIL; END; END M.");
        T.fault(6, 3, m + "TYPECASE NIL OF | ROOT (k) => k := NIL; ELSE\nk := NIL; END; END M.");
        T.fault(6, 3, m + "TYPECASE NIL OF | ROOT (k) => END;\nk := NIL; END M.");
        // b is a BOOLEAN, an INTEGER within FOR and HANDLERS, an object in BRANCHES
        good(m + "b := TRUE; FOR b := 1 TO 2 DO PUT b; TYPECASE NIL OF | ROOT (b) => b := NIL; TRY b := NIL; EXCEPT | e(b) => PUT b; FOR b := b TO b DO PUT b; END; END; b := NIL; END; PUT b; END; b := FALSE; END M.");
        good("MODULE M; PROCEDURE p (b : BOOLEAN) = BEGIN FOR b := 1 TO 2 DO PUT b; END; b := TRUE; END p; VAR b : ROOT; BEGIN b := NIL; END M.");
        T.fault(12, 2, "MODULE M; PROCEDURE p (b : BOOLEAN) = BEGIN\nPUT b; END p; VAR b : INTEGER; BEGIN PUT b; END M.");
        T.fault(12, 2, "MODULE M; PROCEDURE p () = VAR b : BOOLEAN; BEGIN\nPUT b; END p; VAR b : INTEGER; BEGIN PUT b; END M.");
    }

    /** "A PLACE begins with a variable, a FORMAL or such a NAME, or with an imported NAME and . NAME (if none of these hides it), .. or it is a PROCEDURE's". */
    private static void variables() {
        T.fault(7, 2, A + "MODULE M; IMPORT A; BEGIN A.t := 1; END M.");
        T.fault(7, 2, A + "MODULE M; IMPORT A; BEGIN PUT A.e; END M.");
        good(A + "MODULE M; IMPORT A; VAR q : PROCEDURE (); BEGIN q := A.p; A.p(); END M.");
        // hidden by a FORMAL, a LOCAL, a FOR, a HANDLER, a BRANCH
        T.fault(12, 2, A + "MODULE M; IMPORT A; PROCEDURE q (A : INTEGER) = BEGIN A.v := 1; END q; BEGIN END M.");
        T.fault(12, 2, A + "MODULE M; IMPORT A; PROCEDURE q () = VAR A : INTEGER; BEGIN A.v := 1; END q; BEGIN END M.");
        T.fault(12, 2, A + "MODULE M; IMPORT A; BEGIN FOR A := 1 TO 2 DO PUT A.v; END; END M.");
        T.fault(12, 2, A + "MODULE M; IMPORT A; BEGIN TRY EXCEPT | A.e(A) => PUT A.v; END; END M.");
        T.fault(12, 2, A + "MODULE M; IMPORT A; BEGIN TYPECASE NIL OF | ROOT (A) => PUT A.v; END; END M.");
        good(A + "MODULE M; IMPORT A; BEGIN FOR A := 1 TO 2 DO PUT A; END; PUT A.v; END M.");
        // one that is no import ahead of . NAME is looked up by itself
        T.fault(6, 2, A + "MODULE M; BEGIN A.v := 1; END M.");
        T.fault(7, 2, "MODULE M; TYPE t = RECORD f : INTEGER; END; BEGIN\nt.f := 1; END M.");
        T.fault(6, 2, "MODULE M; TYPE t = RECORD f : INTEGER; END; VAR x :\nt.f; BEGIN END M.");
        // more behind a PROCEDURE's NAME is no FAULT of the first round
        T.fault(6, 3, "MODULE M; PROCEDURE p () = BEGIN END p; BEGIN\np.x := 1; p[1] := 2; p^ := 3;\nnobody := 4; END M.");
        T.fault(12, 2, "MODULE M; PROCEDURE p () = BEGIN END p; BEGIN\np[1](2); END M.");
    }

    /** "5 a NAME that is there already: .. among the DECLARATIONS of a unit, its IMPORTS and (of a MODULE) those of its INTERFACE, but for PROCEDUREs that this one tells". */
    private static void thereAlready() {
        String[] tellings = {"TYPE x = INTEGER;", "TYPE x <: ROOT; REVEAL x = OBJECT END;", "VAR x : INTEGER;", "VAR y, x : INTEGER;", "EXCEPTION x;", "PROCEDURE x () = BEGIN END x;"};
        for (String one : tellings) {
            good("MODULE M; " + one + " BEGIN END M.");
            good("MODULE x; " + one + " BEGIN END x.");
            for (String two : tellings) {
                if (!one.contains("y") || !two.contains("y")) {
                    T.fault(5, 2, "MODULE M; " + one + "\n" + two + " BEGIN END M.");
                }
                if (!one.startsWith("PROCEDURE") && !(one.contains("y") && two.contains("y"))) {
                    T.fault(5, 2, "INTERFACE M; " + one + " END M. MODULE M;\n" + two + " BEGIN END M.");
                    good("INTERFACE M; " + one + " END M. MODULE N; IMPORT M; " + two + " BEGIN END N.");
                }
            }
            T.fault(5, 2, "INTERFACE x; END x. MODULE M; IMPORT x;\n" + one + " BEGIN END M.");
            good("INTERFACE x; END x. MODULE M; " + one + " BEGIN END M.");
            if (!one.startsWith("PROCEDURE")) {
                T.fault(5, 2, "INTERFACE x; END x. INTERFACE M; " + one + " END M. MODULE M; IMPORT\nx; BEGIN END M.");
                good("INTERFACE x; END x. INTERFACE M; IMPORT x; END M. MODULE M; " + one + " BEGIN END M.");
            }
        }
        good("INTERFACE x; END x. INTERFACE M; IMPORT x; END M. MODULE M; IMPORT x; BEGIN END M.");
        T.fault(5, 2, "INTERFACE x; END x. INTERFACE M; IMPORT x,\nx; END M.");
        good("INTERFACE M; PROCEDURE x (); END M. MODULE M; PROCEDURE x () = BEGIN END x; BEGIN END M.");
        T.fault(5, 2, "INTERFACE M; PROCEDURE x (); END M. MODULE M; PROCEDURE x () = BEGIN END x;\nPROCEDURE x () = BEGIN END x; BEGIN END M.");
        T.fault(5, 2, "INTERFACE M; PROCEDURE x ();\nPROCEDURE x (); END M. MODULE M; PROCEDURE x () = BEGIN END x; BEGIN END M.");
        // REVEALs tell no NAME
        good("MODULE M; TYPE x <: ROOT; REVEAL x <: ROOT; REVEAL x = OBJECT END; REVEAL x <: ROOT; BEGIN END M.");
    }

    /** "among FIELDS and METHODS of one RECORD or LEVEL; among its OVERRIDES; among FORMALs and LOCALS." */
    private static void fieldsAndMethods() {
        module(5, 3, "TYPE t = RECORD a : INTEGER;", "a : INTEGER; END; BEGIN");
        module(5, 3, "TYPE t = RECORD b,", "b : INTEGER; END; BEGIN");
        module(0, 0, "TYPE t = RECORD a : RECORD a : INTEGER; END; t : INTEGER; END;", "BEGIN");
        module(5, 3, "TYPE t = OBJECT a, b : INTEGER; METHODS m ();", "b (); END; BEGIN");
        module(5, 3, "TYPE t = OBJECT METHODS m (); n ();", "m (a : INTEGER); END; BEGIN");
        module(0, 0, "TYPE t = OBJECT a : INTEGER; METHODS m (a, m : INTEGER); END; TYPE u = t OBJECT m : INTEGER; METHODS a (); END;", "BEGIN");
        String t = "TYPE t = OBJECT METHODS m (); n (); END; PROCEDURE p (s : t) = BEGIN END p;";
        module(0, 0, t + " TYPE u = t OBJECT OVERRIDES m := p; n := p; END;", "BEGIN");
        module(5, 3, t + " TYPE u = t OBJECT OVERRIDES m := p; n := p;", "m := p; END; BEGIN");
        module(0, 0, t + " TYPE u = t OBJECT m, p : INTEGER; METHODS n (); OVERRIDES m := p; n := p; END;", "BEGIN");
        module(5, 3, "TYPE t = PROCEDURE (a : INTEGER; VAR b : INTEGER;", "a : BOOLEAN); BEGIN");
        module(5, 3, "PROCEDURE p (a : INTEGER) = VAR b : INTEGER; VAR", "a : INTEGER; BEGIN END p; BEGIN");
        module(5, 3, "PROCEDURE p (a : INTEGER) = VAR b : INTEGER; VAR c,", "b : INTEGER; BEGIN END p; BEGIN");
        module(0, 0, "PROCEDURE p (p, M : INTEGER) = VAR q : PROCEDURE (p, q : INTEGER); BEGIN END p; PROCEDURE q (p : INTEGER) = BEGIN END q;", "BEGIN");
        // names of FOR, HANDLERS and BRANCHES are told as often as one likes
        module(0, 0, "EXCEPTION e; BEGIN FOR i := 1 TO 2 DO FOR i := 1 TO 2 DO END; END;", "TRY EXCEPT | e(i) => FOR i := 1 TO 2 DO END; ELSE FOR e := 1 TO 2 DO END; END;");
    }

    private static void notKnown() {
        String[] told = {"VAR v : x;", "TYPE t = x;", "TYPE t = REF x;", "TYPE t = ARRAY [0 .. 1] OF x;", "TYPE t = RECORD f : x; END;", "TYPE t = x OBJECT END;", "TYPE t <: x;",
            "REVEAL x <: ROOT;", "REVEAL x = OBJECT END;", "TYPE t = PROCEDURE (a : x);", "TYPE t = PROCEDURE () : x;", "TYPE t = PROCEDURE () RAISES { x };", "TYPE t = OBJECT METHODS m (a : x); END;",
            "TYPE t = OBJECT METHODS m () := x; END;", "TYPE t = OBJECT OVERRIDES m := x; END;", "PROCEDURE p (a : x) = BEGIN END p;", "PROCEDURE p () : x = BEGIN END p;",
            "PROCEDURE p () RAISES { x } = BEGIN END p;", "PROCEDURE p () = VAR l : x; BEGIN END p;", "PROCEDURE p () = BEGIN x(); END p;"};
        for (String s : told) {
            module(6, 2, s, "BEGIN");
            module(6, 2, s.replace("x", "x.y"), "BEGIN");
        }
        String[] done = {"x := 1;", "PUT x;", "v[x] := 1;", "v := v + x;", "x();", "p(x);", "p(v, v, x);", "v := x();", "v := FORK x();", "x := FORK p();", "IF x THEN END;", "IF TRUE THEN ELSIF x THEN END;",
            "WHILE x DO END;", "FOR i := x TO 1 DO END;", "FOR i := 1 TO x DO END;", "RAISE x(1);", "RAISE e(x);", "TRY EXCEPT | x(i) => END;", "LOCK x DO END;", "WAIT x, v;", "WAIT v, x;", "SIGNAL x;",
            "BROADCAST x;", "JOIN x;", "TYPECASE x OF END;", "TYPECASE NIL OF | x (i) => END;", "v := NEW(x);", "v := ISTYPE(NIL, x);", "v := ISTYPE(x, ROOT);", "v := NARROW(NIL, x);", "v := NARROW(x, ROOT);"};
        for (String s : done) {
            module(6, 3, "VAR v : INTEGER; EXCEPTION e; PROCEDURE p () = BEGIN END p; BEGIN", s);
        }
        module(6, 3, "PROCEDURE p () : INTEGER = BEGIN", "RETURN x; END p; BEGIN");
    }

    /** "7 One that means what can't stand there (a TYPE; a variable; behind RAISE, in SETs and HANDLERS an EXCEPTION; behind := in METHODS, OVERRIDES a PROCEDURE)." */
    private static void standsWrong() {
        String[] names = {"t", "v", "e", "p", "I", "I.t", "I.v", "I.e", "I.p"};
        String told = "TYPE t = OBJECT METHODS m (); END; VAR v : t; EXCEPTION e; PROCEDURE p (s : ROOT)";
        String head = "INTERFACE I; " + told + "; END I. MODULE I; PROCEDURE p (s : ROOT) = BEGIN END p; BEGIN END I. MODULE M; IMPORT I; VAR r : ROOT; VAR q : PROCEDURE (s : ROOT); " + told + " = BEGIN END p;\n";
        for (int i = 0; i < names.length; i++) {
            String n = names[i];
            boolean type = n.endsWith("t");
            boolean variable = n.endsWith("v");
            boolean exception = n.endsWith("e");
            boolean procedure = n.endsWith("p");
            String end = " BEGIN END M.";
            String[] types = {"VAR w : " + n + ";", "TYPE w = REF " + n + ";", "TYPE w = " + n + " OBJECT END;", "VAR w : RECORD a : " + n + "; END;", "PROCEDURE w (a : " + n + ") = BEGIN END w;"};
            for (String s : types) {
                T.reading(head + s + end, type ? 0 : 7 + 32);
            }
            T.reading(head + "TYPE w = t OBJECT METHODS k () := " + n + "; OVERRIDES m := " + n + "; END;" + end, procedure ? 0 : 7 + 32);
            T.reading(head + "TYPE w = OBJECT METHODS k () := " + n + "; END;" + end, procedure ? 0 : 7 + 32);
            T.reading(head + "TYPE w = t OBJECT OVERRIDES m := " + n + "; END;" + end, procedure ? 0 : 7 + 32);
            T.reading(head + "TYPE w = PROCEDURE () RAISES { " + n + " };" + end, exception ? 0 : 7 + 32);
            T.reading(head + "BEGIN RAISE " + n + "(1); END M.", exception ? 0 : 7 + 32);
            T.reading(head + "BEGIN TRY EXCEPT | " + n + "(x) => END; END M.", exception ? 0 : 7 + 32);
            T.reading(head + "BEGIN r := " + n + "; END M.", variable ? 0 : procedure ? 12 + 32 : 7 + 32);
            T.reading(head + "BEGIN q := " + n + "; END M.", procedure ? 0 : variable ? 12 + 32 : 7 + 32);
            T.reading(head + "BEGIN " + n + " := NIL; END M.", variable ? 0 : procedure ? 14 + 32 : 7 + 32);
            T.reading(head + "BEGIN " + n + "(NIL); END M.", procedure ? 0 : variable ? 12 + 32 : 7 + 32);
            T.reading(head + "BEGIN r := NEW(" + n + "); END M.", type ? 0 : 7 + 32);
            T.reading(head + "BEGIN TYPECASE r OF | " + n + " (x) => END; END M.", type ? 0 : 7 + 32);
        }
        T.fault(7, 2, head + "REVEAL v <: ROOT; BEGIN END M.");
        T.fault(7, 2, head + "REVEAL I.e = OBJECT END; BEGIN END M.");
        T.fault(10, 2, head + "REVEAL I.t = OBJECT END; BEGIN END M.");
    }

    /** "Lines: of 5 to 7 .. the NAME's that is told (of a QNAME, and of an imported NAME and . NAME in a PLACE, its first one)". */
    private static void linesOfNames() {
        T.fault(5, 4, "MODULE M; VAR x : INTEGER;\nVAR\n\nx\n: INTEGER; BEGIN END M.");
        T.fault(5, 3, "MODULE M;\nVAR x,\nx,\nx : INTEGER; BEGIN END M.");
        T.fault(5, 4, "MODULE M; TYPE t = RECORD\na,\nb,\na\n: INTEGER; END; BEGIN END M.");
        T.fault(5, 3, "MODULE M; PROCEDURE p\n(a,\na : INTEGER) = BEGIN END p; BEGIN END M.");
        T.fault(5, 2, "MODULE M; BEGIN END M. MODULE\nM\n; BEGIN END M.");
        T.fault(6, 3, "MODULE M; IMPORT\n\nA\n; BEGIN END M.");
        T.fault(5, 3, "INTERFACE A;\nIMPORT\nA; END A.");
        T.fault(5, 4, A + "MODULE M;\nIMPORT A,\nA; BEGIN END M.");
        T.fault(6, 3, "MODULE M; VAR x :\n\nt\n; BEGIN END M.");
        T.fault(6, 3, A + "MODULE M; IMPORT A; VAR x :\nA\n.\nu; BEGIN END M.");
        T.fault(7, 3, A + "MODULE M; IMPORT A; VAR x :\nA\n.\nv; BEGIN END M.");
        T.fault(6, 3, A + "MODULE M; IMPORT A; BEGIN\nA\n.\nu := 1; END M.");
        T.fault(7, 4, A + "MODULE M; IMPORT A; BEGIN\nPUT\nA\n.\nt; END M.");
        T.fault(7, 3, A + "MODULE M; IMPORT A; BEGIN PUT\nA\n; END M.");
        T.fault(6, 3, "MODULE M; VAR v : INTEGER; BEGIN IF TRUE THEN v :=\n1 +\nx; END; END M.");
        T.fault(7, 3, "MODULE M; VAR v : INTEGER; BEGIN RAISE\n\nv(1); END M.");
        T.fault(7, 3, "MODULE M; TYPE t = OBJECT METHODS m () :=\n\nt; END; BEGIN END M.");
        T.fault(7, 3, "MODULE M; TYPE t = PROCEDURE () RAISES {\n\nt }; BEGIN END M.");
        T.fault(6, 3, "MODULE M; BEGIN TYPECASE NIL OF |\n\nx (y) => END; END M.");
        // a second EXCEPTION of 15
        T.fault(15, 5, A + "MODULE M; IMPORT A; BEGIN\nTRY EXCEPT | A.e(x) => |\n\nA\n.\ne(x) => END; END M.");
    }

    /** "of all others where the innermost of these begins: a DECLARATION, one of LOCALS, FIELDS, METHODS, OVERRIDES (its NAME), a STATEMENT". */
    private static void linesOfOthers() {
        T.fault(9, 2, "MODULE M;\nTYPE\nt\n= REF\n[1 .. 0]; BEGIN END M.");
        T.fault(9, 2, "MODULE M;\nVAR\nv,\nw :\n[1 .. 0]; BEGIN END M.");
        T.fault(9, 2, "MODULE M;\nPROCEDURE\np (a :\n[1 .. 0]) = BEGIN END p; BEGIN END M.");
        T.fault(9, 3, "MODULE M;\nPROCEDURE p () =\nVAR\na :\n[1 .. 0]; BEGIN END p; BEGIN END M.");
        T.fault(9, 3, "MODULE M;\nVAR v : RECORD\na,\nb :\n[1 .. 0]; END; BEGIN END M.");
        T.fault(9, 4, "MODULE M;\nVAR v : RECORD\na : RECORD\nb : REF\n[1 .. 0]; END; END; BEGIN END M.");
        T.fault(9, 3, "MODULE M;\nTYPE t = OBJECT METHODS\nm\n(a :\n[1 .. 0]); END; BEGIN END M.");
        T.fault(9, 3, "MODULE M;\nTYPE t = OBJECT\na :\n[1 .. 0]; END; BEGIN END M.");
        T.fault(9, 2, "MODULE M;\nTYPE t = PROCEDURE (a : RECORD\na : INTEGER; END; b :\n[1 .. 0]); BEGIN END M.");
        T.fault(8, 2, "MODULE M;\nTYPE\na\n=\na; BEGIN END M.");
        T.fault(8, 2, "MODULE M;\nTYPE\na\n= RECORD\nx : a; END; BEGIN END M.");
        T.fault(8, 2, "MODULE M;\nTYPE\na\n=\na OBJECT END; BEGIN END M.");
        T.fault(8, 2, "MODULE M;\nREVEAL\no\n=\no OBJECT END; TYPE o <: ROOT; BEGIN END M.");
        T.fault(10, 2, "MODULE M;\nTYPE\no\n<: ROOT; BEGIN END M.");
        T.fault(10, 2, "MODULE M; TYPE i = INTEGER;\nREVEAL\ni\n=\nOBJECT END; BEGIN END M.");
        T.fault(11, 2, "INTERFACE A;\nPROCEDURE\np (); END A.");
        T.fault(10, 3, "MODULE M; TYPE i = INTEGER;\nVAR v : RECORD\nf : REF\ni OBJECT END; END; BEGIN END M.");
        T.fault(10, 2, "MODULE M; TYPE o <: ROOT;\nREVEAL\no\n<: INTEGER; REVEAL o = OBJECT END; BEGIN END M.");
        T.fault(11, 4, "MODULE M; TYPE t = OBJECT END;\nTYPE u = t OBJECT\nOVERRIDES\nm\n:= p; END; PROCEDURE p (s : t) = BEGIN END p; BEGIN END M.");
        T.fault(11, 4, "MODULE M; TYPE t = OBJECT\nMETHODS\n\nm\n() := p; END; PROCEDURE p () = BEGIN END p; BEGIN END M.");
        T.fault(12, 2, "MODULE M; BEGIN\nPUT\n1 +\nTRUE; END M.");
        T.fault(12, 3, "MODULE M; BEGIN\nLOOP\nPUT\nTRUE; END; END M.");
        T.fault(12, 2, "MODULE M; BEGIN\nIF TRUE THEN\nELSIF\n1 THEN PUT 1; END; END M.");
        T.fault(12, 2, "MODULE M; BEGIN\nTYPECASE NIL OF\n| INTEGER (x) =>\nPUT TRUE; END; END M.");
        T.fault(9, 3, "MODULE M; VAR r : ROOT; BEGIN LOOP\n\nr :=\nNEW(REF [1 .. 0]); END; END M.");
        T.fault(9, 4, "MODULE M; VAR r : ROOT; BEGIN\nr :=\nNEW(REF RECORD\nf :\n[1 .. 0]; END); END M.");
        T.fault(9, 2, "MODULE M; VAR r : ROOT; BEGIN\nTYPECASE r OF\n|\nREF [1 .. 0] (x) => END; END M.");
        // behind what is within it the outer one goes on
        T.fault(9, 2, "MODULE M;\nTYPE t = PROCEDURE (a : OBJECT METHODS\nm (); END; b :\n[1 .. 0]); BEGIN END M.");
        T.fault(9, 2, "MODULE M; TYPE s = OBJECT METHODS m (); END; PROCEDURE q (x : s) = BEGIN END q;\nTYPE t = PROCEDURE (a : s OBJECT OVERRIDES\nm := q; END; b :\n[1 .. 0]); BEGIN END M.");
        T.fault(9, 3, "MODULE M;\nTYPE t = RECORD\nx : PROCEDURE (a : RECORD\ny : INTEGER;\nz : BOOLEAN; END; b :\n[1 .. 0]); END; BEGIN END M.");
        T.fault(9, 2, "MODULE M; BEGIN\nIF TRUE THEN\nPUT 1;\nELSIF NIL = NEW(REF [1 .. 0]) THEN END; END M.");
        T.fault(9, 2, "MODULE M; BEGIN\nTYPECASE NIL OF | ROOT (y) =>\nPUT 1;\n| REF [1 .. 0] (z) => END; END M.");
        T.fault(9, 3, "MODULE M; VAR b : BOOLEAN; BEGIN LOOP\nPUT 1;\nb := NIL = NEW(REF [1 .. 0]); END; END M.");
        T.fault(9, 2, "MODULE M;\nPROCEDURE p (a : RECORD\ny : INTEGER; END; b :\n[1 .. 0]) = VAR l : INTEGER; BEGIN END p; BEGIN END M.");
        T.fault(13, 2, "MODULE M; PROCEDURE p () = BEGIN END p; BEGIN\np\n(\n1); END M.");
        T.fault(14, 3, "MODULE M; BEGIN IF TRUE THEN\n\nEXIT\n; END; END M.");
        T.fault(15, 3, "MODULE M; EXCEPTION e; PROCEDURE p () = BEGIN\nTRY\nRAISE\ne(1);\nFINALLY END; END p; BEGIN END M.");
    }

    /** "FAULTS, in four rounds; of one round the one of the lowest line, of one line the least; a later round only if there is none." */
    private static void rounds() {
        String[] first = {"VAR x1 : INTEGER; VAR x1 : INTEGER;", "VAR x2 : nobody;", "VAR x3 : x3;"};
        String[] second = {"TYPE y1 = y1;", "TYPE y2 = [1 .. 0];", "TYPE y3 <: ROOT;", "TYPE y4 = OBJECT OVERRIDES m := z; END;"};
        String[] third = {"PROCEDURE z1 () = BEGIN PUT TRUE; END z1;", "PROCEDURE z2 () = BEGIN z(); END z2;", "PROCEDURE z3 () = BEGIN EXIT; END z3;"};
        String fourth = "PROCEDURE w () = BEGIN RAISE e(1); END w;";
        String head = "MODULE M; EXCEPTION e; PROCEDURE z (k : INTEGER) = BEGIN END z;\n";
        String end = "\nBEGIN END M.";
        String[][] all = {first, second, third, {fourth}};
        int[] codes = {5, 8, 12, 15};
        for (int r = 0; r < 4; r++) {
            for (int i = 0; i < all[r].length; i++) {
                T.fault(codes[r] + i, 2, head + all[r][i] + end);
                for (int j = 0; j < all[r].length; j++) {
                    // of one line the least, else the lowest line
                    if (i != j) {
                        T.fault(codes[r] + Math.min(i, j), 2, head + all[r][i] + " " + all[r][j] + end);
                        T.fault(codes[r] + i, 2, head + all[r][i] + "\n" + all[r][j] + end);
                    }
                }
                for (int q = 0; q < r; q++) {
                    for (int j = 0; j < all[q].length; j++) {
                        T.fault(codes[q] + j, 3, head + all[r][i] + "\n" + all[q][j] + end);
                    }
                }
            }
        }
        T.fault(2, 4, head + first[0] + "\n" + second[0] + "\nVAR; BEGIN END M.");
    }
}
