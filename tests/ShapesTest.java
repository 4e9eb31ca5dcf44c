/** Promises 6 and 8: types that are alike, and what is told of a TYPE. */
final class ShapesTest {
    private static final Tell T = new Tell();

    /** Two types in an INTERFACE of some helpers: whether they are alike. */
    private static void alike(int want, String one, String two) {
        LevelUnits x = T.reading("MODULE M;\nEXCEPTION e; EXCEPTION f;\n"
                + "PROCEDURE p (s : ROOT) = BEGIN END p; PROCEDURE q (s : ROOT) = BEGIN END q;\n"
                + "TYPE lo = OBJECT METHODS m (); n (); END; TYPE op <: ROOT; REVEAL op = OBJECT END;\n"
                + "TYPE one = " + one + ";\nTYPE two = " + two + ";\nBEGIN END M.", 0);
        T.due(one + " alike " + two, x.alike(2, 3), want);
        T.due(two + " alike " + one, x.alike(3, 2), want);
        T.due("alike itself", x.alike(3, 3), 1);
        T.due("least", x.type(3, 5), want == 1 ? 2 : 3);
    }

    public static void main(String[] args) {
        shapes();
        levels();
        rings();
        told();
        T.end("ShapesTest");
    }

    private static void shapes() {
        alike(1, "INTEGER", "INTEGER");
        alike(0, "INTEGER", "BOOLEAN");
        alike(0, "MUTEX", "CONDITION");
        alike(0, "[0 .. 2147483647]", "INTEGER");
        alike(1, "[1 .. 2]", "[1 .. 2]");
        alike(0, "[1 .. 2]", "[1 .. 3]");
        alike(0, "[- 1 .. 2]", "[1 .. 2]");
        alike(1, "ARRAY [0 .. 1] OF [1 .. 2]", "ARRAY [0 .. 1] OF [1 .. 2]");
        alike(0, "ARRAY [0 .. 1] OF INTEGER", "ARRAY [1 .. 2] OF INTEGER");
        alike(0, "ARRAY [0 .. 1] OF INTEGER", "ARRAY [0 .. 1] OF BOOLEAN");
        alike(1, "RECORD a, b : INTEGER; END", "RECORD a : INTEGER; b : INTEGER; END");
        alike(0, "RECORD a, b : INTEGER; END", "RECORD b, a : INTEGER; END");
        alike(0, "RECORD a : INTEGER; END", "RECORD a, b : INTEGER; END");
        alike(1, "RECORD END", "RECORD END");
        alike(1, "REF REF op", "REF REF op");
        alike(0, "REF op", "REF ROOT");
        alike(1, "PROCEDURE (a : INTEGER; VAR b, c : op)", "PROCEDURE (x : INTEGER; VAR y : op; VAR z : op)");
        alike(0, "PROCEDURE (a : INTEGER)", "PROCEDURE (VAR a : INTEGER)");
        alike(0, "PROCEDURE (a : INTEGER)", "PROCEDURE (a, b : INTEGER)");
        alike(0, "PROCEDURE ()", "PROCEDURE () : INTEGER");
        alike(0, "PROCEDURE () : [0 .. 1]", "PROCEDURE () : INTEGER");
        alike(1, "PROCEDURE ()", "PROCEDURE () RAISES { }");
        alike(1, "PROCEDURE () RAISES { e, f }", "PROCEDURE () RAISES { f, e, f }");
        alike(0, "PROCEDURE () RAISES { e, f }", "PROCEDURE () RAISES { e }");
    }

    private static void levels() {
        alike(1, "OBJECT END", "ROOT OBJECT END");
        alike(0, "OBJECT END", "ROOT");
        alike(1, "op OBJECT a : INTEGER; END", "op OBJECT a : INTEGER; END");
        alike(0, "op OBJECT END", "ROOT OBJECT END");
        alike(0, "op", "OBJECT END");
        alike(0, "OBJECT a : INTEGER; END", "OBJECT b : INTEGER; END");
        alike(0, "OBJECT a, b : INTEGER; END", "OBJECT b, a : INTEGER; END");
        alike(1, "OBJECT METHODS m (); n () := p; END", "OBJECT METHODS m (); n () := p; END");
        alike(0, "OBJECT METHODS m (); n (); END", "OBJECT METHODS n (); m (); END");
        alike(0, "OBJECT METHODS m (); END", "OBJECT METHODS m () := p; END");
        alike(0, "OBJECT METHODS m () := q; END", "OBJECT METHODS m () := p; END");
        alike(1, "OBJECT METHODS m (a : INTEGER); END", "OBJECT METHODS m (b : INTEGER); END");
        alike(0, "OBJECT METHODS m (a : INTEGER); END", "OBJECT METHODS m (b : BOOLEAN); END");
        alike(1, "lo OBJECT OVERRIDES m := p; n := q; END", "lo OBJECT OVERRIDES n := q; m := p; END");
        alike(0, "lo OBJECT OVERRIDES m := p; n := q; END", "lo OBJECT OVERRIDES m := q; n := p; END");
        alike(0, "lo OBJECT OVERRIDES m := p; END", "lo OBJECT OVERRIDES m := p; n := p; END");
        alike(0, "lo OBJECT OVERRIDES m := p; END", "lo OBJECT END");
        // a PROCEDURE that is told and made is one
        LevelUnits x = T.reading("INTERFACE A; PROCEDURE p (s : ROOT); TYPE t = OBJECT METHODS m () := p; END; END A.\n"
                + "MODULE A; PROCEDURE p (z : ROOT) = BEGIN END p; TYPE u = OBJECT METHODS m () := p; END; BEGIN END A.\n"
                + "MODULE B; IMPORT A; TYPE v = OBJECT METHODS m () := A.p; END; BEGIN END B.", 0);
        T.due("told and made", x.alike(0, 1), 1);
        T.due("imported", x.alike(1, 2), 1);
    }

    private static void rings() {
        alike(1, "REF one", "REF two");
        alike(1, "REF one", "REF one");
        alike(1, "REF two", "REF one");
        alike(1, "REF REF one", "REF REF REF two");
        alike(1, "RECORD a : REF two; END", "RECORD a : REF one; END");
        alike(0, "RECORD a : REF two; END", "RECORD b : REF one; END");
        alike(1, "PROCEDURE (a : one) : two", "PROCEDURE (a : two) : one");
        alike(1, "PROCEDURE (a : PROCEDURE (b : one))", "PROCEDURE (a : two)");
        alike(0, "PROCEDURE (a : PROCEDURE (VAR b : one))", "PROCEDURE (a : two)");
        alike(1, "OBJECT a : one; METHODS m (x : two); END", "OBJECT a : two; METHODS m (x : one); END");
        alike(0, "OBJECT a : one; b : INTEGER; END", "OBJECT a : one; b : BOOLEAN; END");
        // a long row of REFs is told from a longer one at its end alone
        StringBuilder b = new StringBuilder("INTERFACE A;\nTYPE a0 = INTEGER;\n");
        for (int i = 1; i <= 250; i++) {
            b.append("TYPE a").append(i).append(" = REF a").append(i - 1).append(";\n");
        }
        LevelUnits x = T.reading(b + "END A.", 0);
        for (int i = 0; i <= 250; i++) {
            T.due("least", x.type(i, 5), i);
        }
        x = T.reading("INTERFACE A; TYPE a = b; TYPE b = c; TYPE c = REF a; TYPE d = REF REF d; END A.", 0);
        for (int i = 0; i < 4; i++) {
            T.due("least", x.type(i, 5), 0);
        }
    }

    private static void told() {
        LevelUnits x = T.reading("INTERFACE A;\nTYPE i = INTEGER; TYPE b = BOOLEAN;\nTYPE r = [1 .. 4];\n"
                + "TYPE a = ARRAY [- 1 .. 2] OF n; TYPE\nn = RECORD x, y : r; z : a2; END; TYPE a2 = ARRAY [0 .. 0] OF o; TYPE f = REF a;\n"
                + "TYPE p = PROCEDURE (); TYPE m = MUTEX; TYPE c = CONDITION; TYPE t = THREAD; TYPE o = ROOT;\n"
                + "TYPE l = o OBJECT END; TYPE q <: o; TYPE q2 = q; TYPE l2 = q OBJECT f : a; END; TYPE e = RECORD END;\nEND A.\n"
                + "MODULE A; TYPE z = q; REVEAL q = l OBJECT x, y, z : a; END; BEGIN END A.", 0);
        int[] kinds = {0, 1, 2, 3, 4, 3, 5, 6, 7, 8, 9, 10, 11, 12, 12, 11, 4, 12};
        int[] cells = {1, 1, 1, 12, 3, 1, 1, 1, 1, 1, 1, 1, 1, 1, 1, 1, 0, 1};
        int[] lines = {2, 2, 3, 4, 4, 5, 5, 6, 6, 6, 6, 6, 7, 7, 7, 7, 7, 9};
        int[] chain = {0, 0, 0, 0, 0, 0, 0, 0, 0, 0, 0, 1, 2, 3, 3, 4, 0, 3};
        int[] least = {0, 1, 2, 3, 4, 5, 6, 7, 8, 9, 10, 11, 12, 13, 13, 15, 16, 13};
        T.due("count(2)", x.count(2), kinds.length);
        for (int i = 0; i < kinds.length; i++) {
            T.due("type(" + i + ", 0)", x.type(i, 0), i < 17 ? 0 : 1);
            T.due("type(" + i + ", 1)", x.type(i, 1), lines[i]);
            T.due("type(" + i + ", 2)", x.type(i, 2), kinds[i]);
            T.due("type(" + i + ", 3)", x.type(i, 3), cells[i]);
            T.due("type(" + i + ", 4)", x.type(i, 4), chain[i]);
            T.due("type(" + i + ", 5)", x.type(i, 5), least[i]);
            T.due("type(" + i + ", 6)", x.type(i, 6), LevelUnits.NONE);
            T.due("type(" + i + ", -1)", x.type(i, -1), LevelUnits.NONE);
        }
        T.due("type(18, 0)", x.type(18, 0), LevelUnits.NONE);
        T.due("type(-1, 0)", x.type(-1, 0), LevelUnits.NONE);
        T.due("alike(0, 18)", x.alike(0, 18), LevelUnits.NONE);
        T.due("alike(-1, 0)", x.alike(-1, 0), LevelUnits.NONE);
        LevelUnits none = new LevelUnits();
        T.due("type(0, 0) of none", none.type(0, 0), LevelUnits.NONE);
        T.due("alike(0, 0) of none", none.alike(0, 0), LevelUnits.NONE);
    }
}
