/** Promises 7 and 9: levels as units see them; FAULTS 8 to 11. */
final class LevelsTest {
    private static final Tell T = new Tell();

    public static void main(String[] args) {
        below();
        sees();
        holding();
        cells();
        objects();
        overrides();
        made();
        T.end("LevelsTest");
    }

    private static void below() {
        LevelUnits x = T.reading("INTERFACE A; EXCEPTION e; EXCEPTION f; TYPE i = INTEGER; TYPE r = [0 .. 9]; TYPE s = [2 .. 9];\n"
                + "TYPE t = [2 .. 10]; TYPE p = PROCEDURE (a : r) RAISES { e }; TYPE q = PROCEDURE (b : r) RAISES { f, e };\n"
                + "TYPE u = PROCEDURE (VAR b : r) RAISES { f, e }; TYPE o = OBJECT END; TYPE o2 = o OBJECT END; TYPE o3 = o2 OBJECT END;\n"
                + "TYPE ro = ROOT; TYPE f1 = REF o; TYPE f2 = REF o2; TYPE g = BOOLEAN; END A.", 0);
        int[][] yes = {{1, 0}, {2, 0}, {3, 0}, {2, 1}, {2, 3}, {4, 5}, {8, 7}, {9, 7}, {9, 8}, {7, 10}, {8, 10}, {9, 10}};
        for (int i = 0; i < 14; i++) {
            for (int j = 0; j < 14; j++) {
                int want = i == j ? 1 : 0;
                for (int[] pair : yes) {
                    want = pair[0] == i && pair[1] == j ? 1 : want;
                }
                T.due("below(0, " + i + ", " + j + ")", x.below(0, i, j), want);
            }
        }
        T.due("below(1, 0, 0)", x.below(1, 0, 0), LevelUnits.NONE);
        T.due("below(-1, 0, 0)", x.below(-1, 0, 0), LevelUnits.NONE);
        T.due("below(0, 14, 0)", x.below(0, 14, 0), LevelUnits.NONE);
        T.due("below(0, 0, -1)", x.below(0, 0, -1), LevelUnits.NONE);
    }

    private static void sees() {
        LevelUnits x = T.reading("INTERFACE A; TYPE a = OBJECT END; TYPE b = a OBJECT END; TYPE c = b OBJECT END; TYPE p <: a; END A.\n"
                + "INTERFACE B; IMPORT A; REVEAL A.p <: A.b; END B.\n"
                + "INTERFACE C; IMPORT A; REVEAL A.p <: A.c; END C.\n"
                + "INTERFACE D; IMPORT A; REVEAL A.p = A.c OBJECT END; TYPE n = INTEGER; END D.\n"
                + "MODULE E; IMPORT A, B; BEGIN END E.\n"
                + "MODULE F; IMPORT C, B; BEGIN END F.\n"
                + "MODULE G; IMPORT D; BEGIN END G.\n"
                + "MODULE D; BEGIN END D.\n"
                + "INTERFACE H; END H.\nMODULE H; BEGIN END H.", 0);
        // units: 0 A, 1 B, 2 C, 3 D, 4 E, 5 F, 6 G, 7 D, 8 H, 9 H; the chain of p is p, c, b, a, ROOT
        int[] seen = {3, 4, 5, 5, 4, 5, 5, 5, 3, 3};
        int[] belowB = {0, 1, 1, 1, 1, 1, 1, 1, 0, 0};
        int[] belowC = {0, 0, 1, 1, 0, 1, 1, 1, 0, 0};
        for (int u = 0; u < 10; u++) {
            T.due("sees(" + u + ", 3)", x.sees(u, 3), seen[u]);
            T.due("below(" + u + ", 3, 0)", x.below(u, 3, 0), 1);
            T.due("below(" + u + ", 3, 1)", x.below(u, 3, 1), belowB[u]);
            T.due("below(" + u + ", 3, 2)", x.below(u, 3, 2), belowC[u]);
            T.due("sees(" + u + ", 2)", x.sees(u, 2), 4);
        }
        T.due("type(3, 4)", x.type(3, 4), 5);
        T.due("sees(0, 4)", x.sees(0, 4), LevelUnits.NONE);
        T.due("sees(0, 5)", x.sees(0, 5), LevelUnits.NONE);
        T.due("sees(10, 0)", x.sees(10, 0), LevelUnits.NONE);
        T.due("sees(-1, 0)", x.sees(-1, 0), LevelUnits.NONE);
    }

    private static void fault(int code, int line, String told) {
        T.reading("MODULE M;\n" + told + "\nBEGIN END M.", code == 0 ? 0 : code + 16 * line);
    }

    private static void holding() {
        fault(8, 2, "TYPE a = a;");
        fault(8, 3, "TYPE c = a;\nTYPE a = b;\nTYPE b = a;");
        fault(8, 2, "TYPE a = RECORD x : INTEGER; y : a; END;");
        fault(8, 2, "TYPE a = ARRAY [0 .. 1] OF RECORD x : b; END; TYPE b = a;");
        fault(8, 3, "TYPE z = ARRAY [0 .. 1] OF a;\nTYPE a = ARRAY [0 .. 1] OF a;");
        fault(0, 0, "TYPE a = RECORD x : REF a; y : PROCEDURE (z : a) : INTEGER; v : OBJECT w : a; END; END;");
        fault(8, 2, "TYPE a = a OBJECT END;");
        fault(8, 3, "TYPE c = a OBJECT END;\nTYPE a = b OBJECT END;\nTYPE b = a;");
        fault(8, 3, "TYPE p <: q;\nTYPE q = p OBJECT END;\nREVEAL p = q OBJECT END;");
        fault(8, 3, "TYPE p <: q;\nREVEAL p = q OBJECT END;\nTYPE q = p OBJECT END;");
        fault(0, 0, "TYPE a = REF a; TYPE b = OBJECT x : b; END;");
    }

    private static void cells() {
        fault(9, 2, "TYPE a = [2 .. 1];");
        fault(9, 2, "TYPE a = ARRAY [0 .. - 1] OF INTEGER;");
        fault(0, 0, "TYPE a = ARRAY [0 .. 999] OF INTEGER; TYPE b = ARRAY [1 .. 2] OF a;");
        fault(9, 2, "TYPE a = ARRAY [0 .. 1000] OF INTEGER;");
        fault(9, 2, "TYPE a = ARRAY [- 2147483647 .. 2147483647] OF ARRAY [- 2147483647 .. 2147483647] OF INTEGER;");
        fault(9, 2, "TYPE a = REF ARRAY [0 .. 1000] OF RECORD END;");
        fault(9, 3, "TYPE a = ARRAY [0 .. 999] OF RECORD x, y : INTEGER; END;\nTYPE b = RECORD x : a; y : INTEGER; END;");
        // where it is written: the group of FIELDS
        fault(9, 4, "TYPE a = RECORD\nx : INTEGER;\ny, z : REF RECORD\nv : ARRAY [1 .. 500] OF RECORD x, y, z, v, w : INTEGER; END; END; END;");
        fault(9, 4, "TYPE a = OBJECT\nMETHODS\nm (a : INTEGER;\nb : [2 .. 1]); END;");
        fault(9, 3, "PROCEDURE p () =\nVAR x : INTEGER; VAR\ny : [2 .. 1]; BEGIN END p;");
        fault(9, 2, "PROCEDURE p (x : INTEGER;\ny : [2 .. 1]) = BEGIN END p;");
        fault(9, 2, "PROCEDURE p () : RECORD END = BEGIN END p;");
        fault(9, 2, "TYPE a = PROCEDURE () : b; TYPE b = ARRAY [0 .. 1] OF INTEGER;");
        T.fault(9, 3, "MODULE M; VAR x : REF INTEGER; BEGIN\nIF TRUE THEN\nx := NEW(REF [1 .. 0]); END; END M.");
        // a type that has none counts no CELLS
        fault(8, 3, "VAR v : ARRAY [1 .. 900] OF a;\nTYPE a = RECORD x, y, z : a; END;");
        String v = "VAR a, b : ARRAY [1 .. 1000] OF RECORD x, y : INTEGER; END;\n";
        fault(0, 0, v + "VAR c : ARRAY [1 .. 1000] OF INTEGER; VAR z : RECORD END;");
        fault(9, 3, v + "VAR c : ARRAY [1 .. 1000] OF INTEGER; VAR d : INTEGER; VAR e : INTEGER;");
        T.fault(9, 4, "INTERFACE A;\n" + v + "END A.\nMODULE B; VAR c,\nd : ARRAY [1 .. 1000] OF INTEGER; BEGIN END B.");
        LevelUnits x = T.reading("INTERFACE A;\n" + v + "END A.\nMODULE B; VAR c : ARRAY [1 .. 1000] OF INTEGER; BEGIN END B.", 0);
        T.due("count(4)", x.count(4), 5000);
    }

    private static void objects() {
        fault(10, 2, "TYPE a = b OBJECT END; TYPE b = INTEGER;");
        fault(10, 3, "TYPE b = REF INTEGER;\nVAR v : RECORD f : b OBJECT END; END;");
        fault(10, 2, "TYPE a <: INTEGER; REVEAL a = OBJECT END;");
        fault(10, 2, "TYPE a <: ROOT;");
        fault(10, 2, "TYPE a <: a; REVEAL a = OBJECT END;");
        fault(10, 2, "TYPE a <: b; REVEAL a = OBJECT END; TYPE b = OBJECT END;");
        fault(0, 0, "TYPE a <: b; REVEAL a = b OBJECT END; TYPE b = OBJECT END;");
        fault(0, 0, "TYPE a <: OBJECT f : b; END; REVEAL a = b OBJECT END; TYPE b = OBJECT f : b; END;");
        fault(10, 3, "TYPE a = OBJECT END;\nREVEAL a <: ROOT;");
        fault(10, 3, "TYPE a = OBJECT END;\nREVEAL a = OBJECT END;");
        fault(10, 3, "TYPE a <: ROOT; REVEAL a = OBJECT END;\nREVEAL a = OBJECT END;");
        fault(10, 3, "TYPE a <: ROOT; REVEAL a = OBJECT END;\nREVEAL a <: BOOLEAN;");
        fault(10, 3, "TYPE a <: ROOT; REVEAL a = OBJECT END; TYPE b = OBJECT END;\nREVEAL a <: b;");
        fault(10, 3, "TYPE a <: ROOT; REVEAL a = OBJECT END;\nREVEAL a <: a;");
        fault(0, 0, "TYPE a <: ROOT; REVEAL a = b OBJECT END; REVEAL c <: b; REVEAL a <: ROOT; TYPE b = OBJECT END; TYPE c = a;");
    }

    private static void overrides() {
        String t = "TYPE t = OBJECT f : INTEGER; METHODS m (x : INTEGER) : t RAISES { e }; END; EXCEPTION e; EXCEPTION g;"
                + " PROCEDURE p (s : t; y : INTEGER) : t RAISES { e } = BEGIN RETURN s; END p;\n";
        fault(0, 0, t + "TYPE u = t OBJECT OVERRIDES m := p; END; TYPE v = u OBJECT OVERRIDES m := p; END;");
        fault(11, 3, t + "TYPE u = t OBJECT OVERRIDES n := p; END;");
        fault(11, 3, t + "TYPE u = t OBJECT OVERRIDES f := p; END;");
        fault(11, 4, t + "TYPE u = t OBJECT METHODS n () : t; OVERRIDES\nn := p; END;");
        fault(11, 3, t + "TYPE u = t OBJECT m : INTEGER; END; TYPE v = u OBJECT OVERRIDES m := p; END;");
        String[] fitting = {"(s : t; y : INTEGER) : t", "(s : ROOT; z : INTEGER) : t RAISES { e, e }", "(s : u; y : INTEGER) : t RAISES { }"};
        String[] other = {"() : t", "(VAR s : t; y : INTEGER) : t", "(s : v; y : INTEGER) : t", "(s : t) : t", "(s : t; y, z : INTEGER) : t",
            "(s : t; VAR y : INTEGER) : t", "(s : t; y : [0 .. 1]) : t", "(s : t; y : INTEGER)", "(s : t; y : INTEGER) : ROOT",
            "(s : t; y : INTEGER) : t RAISES { g }", "(s : INTEGER; y : INTEGER) : t"};
        for (String s : fitting) {
            fault(0, 0, t + "TYPE u = t OBJECT OVERRIDES m := q; END; TYPE v = t OBJECT END; PROCEDURE q " + s + " = BEGIN END q;");
        }
        for (String s : other) {
            fault(11, 3, t + "TYPE u = t OBJECT OVERRIDES m := q; END; TYPE v = t OBJECT END; PROCEDURE q " + s + " = BEGIN END q;");
            fault(11, 4, t + "TYPE u = t OBJECT METHODS\nn (x : INTEGER) : t RAISES { e } := q; END; TYPE v = t OBJECT END; PROCEDURE q " + s
                    + " = BEGIN END q;");
        }
        // as the unit sees it in which the LEVEL stands
        String a = "INTERFACE A; TYPE p <: ROOT; PROCEDURE q (s : p); END A.\n"
                + "MODULE A; REVEAL p = OBJECT METHODS m () := q; END; PROCEDURE q (s : p) = BEGIN END q;\n";
        T.reading(a + "TYPE u = p OBJECT OVERRIDES m := q; END; BEGIN END A.", 0);
        T.fault(11, 3, a + "BEGIN END A. MODULE B; IMPORT A; TYPE u = A.p OBJECT OVERRIDES m := A.q; END; BEGIN END B.");
        // of a REVEAL = the OPAQUE type is the LEVEL's own one
        T.reading("MODULE M; TYPE p <: ROOT; PROCEDURE q (s : p) = BEGIN END q; REVEAL p = OBJECT METHODS m () := q; END; BEGIN END M.", 0);
    }

    private static void made() {
        String a = "INTERFACE A;\nPROCEDURE p (x : INTEGER) : INTEGER RAISES { e }; EXCEPTION e;\nEND A.\n";
        T.fault(11, 2, a);
        T.fault(11, 2, a + "MODULE A; BEGIN END A.");
        T.reading(a + "MODULE A; PROCEDURE p (z : INTEGER) : INTEGER RAISES { e, e } = BEGIN END p; BEGIN END A.", 0);
        T.fault(11, 4, a + "MODULE A; PROCEDURE p (z : INTEGER) : INTEGER = BEGIN END p; BEGIN END A.");
        T.fault(11, 4, a + "MODULE A; PROCEDURE p (z : BOOLEAN) : INTEGER RAISES { e } = BEGIN END p; BEGIN END A.");
        T.fault(11, 4, a + "MODULE A; PROCEDURE p (VAR z : INTEGER) : INTEGER RAISES { e } = BEGIN END p; BEGIN END A.");
        // the lowest line, of one line the least
        fault(9, 2, "TYPE a = b OBJECT x : [2 .. 1]; END; TYPE b = INTEGER;");
        fault(10, 2, "TYPE a = b OBJECT END; TYPE b = INTEGER;\nTYPE c = c;");
    }
}
