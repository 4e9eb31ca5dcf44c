/** FAULTS 5 to 7: what names mean. */
final class NamesTest {
    private static final Tell T = new Tell();

    public static void main(String[] args) {
        units();
        imports();
        twice();
        unknown();
        wrong();
        places();
        firstOfAll();
        T.end("NamesTest");
    }

    private static void units() {
        T.fault(5, 2, "INTERFACE A; END A.\nINTERFACE A; END A.");
        T.fault(5, 2, "MODULE A; BEGIN END A.\nMODULE A; BEGIN END A.");
        T.reading("INTERFACE A; END A.\nMODULE A; BEGIN END A.", 0);
        T.fault(5, 2, "MODULE A; BEGIN END A.\nINTERFACE A; END A.");
        // what an INTERFACE tells is known in its MODULE, what it imports is not
        T.reading("INTERFACE A; TYPE t = INTEGER; END A. MODULE A; VAR v : t; BEGIN END A.", 0);
        T.fault(6, 1, "INTERFACE B; TYPE t = INTEGER; END B. INTERFACE A; IMPORT B; END A. MODULE A; VAR v : B.t; BEGIN END A.");
        T.fault(6, 1, "INTERFACE A; VAR v : t; END A. MODULE A; TYPE t = INTEGER; BEGIN END A.");
    }

    private static void imports() {
        String a = "INTERFACE A; TYPE t = INTEGER; VAR v : INTEGER; EXCEPTION e; END A.\n";
        T.reading(a + "MODULE M; IMPORT A; VAR w : A.t; BEGIN w := A.v; END M.", 0);
        T.fault(6, 2, a + "MODULE M; IMPORT B; BEGIN END M.");
        T.fault(6, 1, "MODULE M; IMPORT A; BEGIN END M.\n" + a);
        T.fault(6, 3, a + "MODULE B; BEGIN END B.\nMODULE M; IMPORT B; BEGIN END M.");
        T.fault(5, 1, "INTERFACE A; IMPORT A; END A.");
        T.fault(5, 2, a + "MODULE A; IMPORT A; BEGIN END A.");
        T.fault(5, 2, a + "MODULE M; IMPORT A, A; BEGIN END M.");
        T.fault(5, 3, a + "MODULE M; IMPORT A; VAR\nA : INTEGER; BEGIN END M.");
        T.fault(6, 2, a + "MODULE M; VAR w : A.t; BEGIN END M.");
        T.fault(6, 2, a + "MODULE M; IMPORT A; VAR w : A.u; BEGIN END M.");
        T.fault(7, 2, a + "MODULE M; IMPORT A; VAR w : A; BEGIN END M.");
        T.fault(7, 2, a + "MODULE M; IMPORT A; VAR w : A.v; BEGIN END M.");
        T.fault(7, 2, a + "MODULE M; IMPORT A; BEGIN A := 1; END M.");
        T.fault(7, 2, a + "MODULE M; IMPORT A; BEGIN A(1); END M.");
        T.fault(6, 2, a + "MODULE M; IMPORT A; BEGIN A.w := 1; END M.");
        T.fault(7, 2, a + "MODULE M; IMPORT A; BEGIN A.t := 1; END M.");
        // not what an INTERFACE imports
        T.fault(6, 3, a + "INTERFACE B; IMPORT A; END B.\nMODULE M; IMPORT B; VAR w : B.A; BEGIN END M.");
        // the line is the first NAME's
        T.fault(6, 3, a + "MODULE M; IMPORT A; VAR w :\nA\n.\nu; BEGIN END M.");
        T.fault(6, 4, a + "MODULE M; IMPORT A; BEGIN\nPUT 1 +\nA\n.u; END M.");
    }

    private static void twice() {
        T.fault(5, 3, "INTERFACE A;\nTYPE x = INTEGER; VAR\nx : INTEGER; END A.");
        T.fault(5, 1, "INTERFACE A; VAR x, y, x : INTEGER; END A.");
        T.fault(5, 2, "INTERFACE A; TYPE x = INTEGER; END A.\nMODULE A; EXCEPTION x; BEGIN END A.");
        T.reading("INTERFACE A; PROCEDURE p (); END A. MODULE A; PROCEDURE p () = BEGIN END p; BEGIN END A.", 0);
        T.fault(5, 3, "INTERFACE A; PROCEDURE p (); END A. MODULE A; PROCEDURE p () = BEGIN END p;\n\nVAR p : INTEGER; BEGIN END A.");
        T.fault(5, 2, "INTERFACE A; PROCEDURE p (); END A. MODULE A; VAR\np : INTEGER;\nPROCEDURE p () = BEGIN END p; BEGIN END A.");
        T.fault(5, 2, "INTERFACE p; END p. INTERFACE A; PROCEDURE p (); END A. MODULE A; IMPORT\np; BEGIN END A.");
        T.fault(5, 2, "INTERFACE A; TYPE p = INTEGER; END A. MODULE A;\nPROCEDURE p () = BEGIN END p; BEGIN END A.");
        T.fault(5, 2, "INTERFACE A; PROCEDURE p ();\nPROCEDURE p (); END A. MODULE A; PROCEDURE p () = BEGIN END p; BEGIN END A.");
        T.reading("MODULE M; VAR M : INTEGER; BEGIN END M.", 0);
        T.fault(5, 1, "INTERFACE A; TYPE t = RECORD a : INTEGER; b, a : INTEGER; END; END A.");
        T.fault(5, 2, "INTERFACE A; TYPE t = OBJECT a : INTEGER; METHODS\na (); END; END A.");
        T.fault(5, 1, "INTERFACE A; TYPE t = OBJECT METHODS a (); a (); END; END A.");
        T.reading("INTERFACE A; TYPE s = OBJECT a : INTEGER; END; TYPE t = s OBJECT a : RECORD a : t; END; END; END A.", 0);
        String m = "MODULE M; PROCEDURE p (s : t) = BEGIN END p; TYPE t = OBJECT METHODS m (); END;\n";
        T.reading(m + "TYPE u = t OBJECT m : INTEGER; OVERRIDES m := p; END; BEGIN END M.", 0);
        T.fault(5, 2, m + "TYPE u = t OBJECT OVERRIDES m := p; m := p; END; BEGIN END M.");
        T.fault(5, 1, "INTERFACE A; TYPE t = PROCEDURE (a : INTEGER; VAR a : INTEGER); END A.");
        T.fault(5, 1, "INTERFACE A; TYPE t = OBJECT METHODS m (a, a : INTEGER); END; END A.");
        T.fault(5, 2, "MODULE A; PROCEDURE p (a : INTEGER) = VAR\na : INTEGER; BEGIN END p; BEGIN END A.");
        T.fault(5, 1, "MODULE A; PROCEDURE p () = VAR a : INTEGER; VAR b, a : INTEGER; BEGIN END p; BEGIN END A.");
        T.reading("MODULE A; VAR p : INTEGER; PROCEDURE q (p : INTEGER) = VAR q, A : INTEGER; BEGIN q := p; END q; BEGIN END A.", 0);
    }

    private static void unknown() {
        T.fault(6, 1, "INTERFACE A; TYPE t = u; END A.");
        T.fault(6, 1, "INTERFACE A; TYPE t = u OBJECT END; END A.");
        T.fault(6, 1, "INTERFACE A; REVEAL u <: ROOT; END A.");
        T.fault(6, 1, "INTERFACE A; PROCEDURE p () RAISES { e }; END A.");
        T.fault(6, 1, "INTERFACE A; TYPE t = OBJECT METHODS m () := p; END; END A.");
        T.fault(6, 1, "MODULE A; TYPE x = INTEGER; VAR v : x.y; BEGIN END A.");
        T.fault(6, 2, "MODULE A; BEGIN\nx := 1; END A.");
        T.fault(6, 2, "MODULE A; BEGIN\nRAISE x(1); END A.");
        T.fault(6, 2, "MODULE A; BEGIN TRY EXCEPT |\nx(v) => END; END A.");
        T.fault(6, 1, "MODULE A; BEGIN FOR i := 1 TO i DO END; END A.");
        T.fault(6, 1, "MODULE A; BEGIN FOR i := 1 TO 2 DO END; PUT i; END A.");
        T.fault(6, 1, "MODULE A; EXCEPTION e; BEGIN TRY PUT v; EXCEPT | e(v) => END; END A.");
        T.reading("MODULE A; EXCEPTION e; BEGIN TRY EXCEPT | e(v) => v := v + 1; END; END A.", 0);
        T.fault(6, 1, "MODULE A; BEGIN TYPECASE NIL OF | ROOT (x) => | ROOT (y) => x := y; END; END A.");
        T.fault(6, 1, "MODULE A; PROCEDURE p (f : INTEGER) = VAR l : INTEGER; BEGIN END p; BEGIN PUT f; END A.");
        T.fault(6, 1, "MODULE A; PROCEDURE p (f : INTEGER) = VAR l : INTEGER; BEGIN END p; PROCEDURE q () = BEGIN PUT l; END q; BEGIN END A.");
    }

    private static void wrong() {
        String d = "MODULE A; TYPE t = INTEGER; VAR v : INTEGER; EXCEPTION e; PROCEDURE p () = BEGIN END p;\n";
        String end = " BEGIN END A.";
        T.fault(7, 2, d + "VAR w : v;" + end);
        T.fault(7, 2, d + "VAR w : e;" + end);
        T.fault(7, 2, d + "VAR w : p;" + end);
        T.fault(7, 2, d + "TYPE w = v OBJECT END;" + end);
        T.fault(7, 2, d + "REVEAL v <: ROOT;" + end);
        T.fault(7, 2, d + "TYPE w = PROCEDURE () RAISES { t };" + end);
        T.fault(7, 2, d + "TYPE w = OBJECT METHODS m () := v; END;" + end);
        T.fault(7, 2, d + "TYPE w = OBJECT OVERRIDES m := t; END;" + end);
        T.fault(7, 2, d + "BEGIN t := 1; END A.");
        T.fault(7, 2, d + "BEGIN PUT e; END A.");
        T.fault(7, 2, d + "BEGIN RAISE v(1); END A.");
        T.fault(7, 2, d + "BEGIN TRY EXCEPT | p(x) => END; END A.");
        T.fault(7, 2, d + "BEGIN v := NEW(v); END A.");
        T.fault(7, 2, d + "BEGIN t.x := 1; END A.");
    }

    private static void places() {
        String a = "INTERFACE A; VAR x : INTEGER; END A.\n";
        // the innermost one is meant
        T.reading(a + "MODULE M; IMPORT A; PROCEDURE p (A : RECORD x : BOOLEAN; END) = BEGIN A.x := TRUE; END p; BEGIN A.x := 1; END M.", 0);
        T.fault(12, 2, a + "MODULE M; IMPORT A; PROCEDURE p (A : RECORD x : BOOLEAN; END) = BEGIN A.x := 1; END p; BEGIN END M.");
        T.reading("MODULE M; VAR i : BOOLEAN; BEGIN FOR i := 1 TO 2 DO PUT i; END; i := TRUE; END M.", 0);
        T.fault(12, 1, "MODULE M; VAR i : BOOLEAN; BEGIN FOR i := 1 TO 2 DO IF i THEN END; END; END M.");
        // QNAMEs are looked up in the unit alone
        T.reading("MODULE M; TYPE t = INTEGER; EXCEPTION e; PROCEDURE p (t, e : BOOLEAN) RAISES { e } = VAR x : t; BEGIN x := 1; RAISE e(x); END p; BEGIN END M.", 0);
        // more behind a PROCEDURE's NAME is told by the later rounds
        T.fault(12, 1, "MODULE M; PROCEDURE p () = BEGIN END p; BEGIN p.x := 1; END M.");
    }

    private static void firstOfAll() {
        // the lowest line, of one line the least, and a later round only if there is none
        T.fault(7, 2, "MODULE M;\nVAR a : b; VAR b : INTEGER;\nVAR b : INTEGER; BEGIN END M.");
        T.fault(5, 2, "MODULE M;\nVAR b : b; VAR b : c; BEGIN END M.");
        T.fault(6, 3, "MODULE M;\nTYPE a = a;\nVAR b : c; BEGIN END M.");
        // the text ahead of all
        T.fault(2, 3, "MODULE M;\nVAR a : b;\nBEGIN");
    }
}
