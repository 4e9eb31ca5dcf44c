/** "2. RULES", SHAPES, LEVELS and the second round: FAULTS 8 to 11, each with what is still no FAULT. */
final class TypesEdgesTest {
    private static final Tell T = new Tell();

    public static void main(String[] args) {
        bounds();
        parts();
        signatures();
        levels();
        opaque();
        rings();
        belowRanges();
        belowProcedures();
        belowObjects();
        seenReveals();
        lowest();
        holdsItself();
        objectRings();
        wholeChainOfRing();
        firstBound();
        elements();
        partCells();
        unitCells();
        results();
        noOtherNine();
        noObjectType();
        reveals();
        told();
        overrides();
        fits();
        made();
        cellsTold();
        T.end("TypesEdgesTest");
    }

    private static void alike(int want, String one, String two) {
        LevelUnits x = T.reading("MODULE M; EXCEPTION e; EXCEPTION g; PROCEDURE p (s : ROOT) = BEGIN END p; PROCEDURE q (s : ROOT) = BEGIN END q;"
                + " TYPE one = " + one + "; TYPE two = " + two + "; TYPE lo = OBJECT METHODS m (); n (); END; TYPE op <: ROOT; TYPE oq <: ROOT; REVEAL op = OBJECT END; REVEAL oq = OBJECT END;"
                + " TYPE in = INTEGER; BEGIN END M.", 0);
        T.due(one + " alike " + two, x.alike(0, 1), want);
        T.due(two + " alike " + one, x.alike(1, 0), want);
        T.due("least of " + two, x.type(1, 5), 1 - want);
    }

    /** DECLARATIONS in line 2, 3 and so on; code 0: there is no FAULT. */
    private static void fault(int code, int line, String told) {
        T.reading("MODULE M; EXCEPTION e; EXCEPTION g;\n" + told + "\nBEGIN END M.", code == 0 ? 0 : code + 16 * line);
    }

    private static void good(String... all) {
        for (String told : all) {
            fault(0, 0, told);
        }
    }

    /** "RANGEs and ARRAYs with the same bounds (ARRAYs and REFs of alike types)". */
    private static void bounds() {
        alike(1, "[0 .. 9]", "[0 .. 9]");
        alike(0, "[0 .. 9]", "[1 .. 9]");
        alike(0, "[0 .. 9]", "[0 .. 8]");
        alike(1, "[- 0 .. 9]", "[0 .. 0009]");
        alike(0, "[- 2147483647 .. 2147483647]", "INTEGER");
        alike(1, "ARRAY [0 .. 9] OF in", "ARRAY [0 .. 9] OF INTEGER");
        alike(0, "ARRAY [0 .. 9] OF in", "ARRAY [1 .. 10] OF INTEGER");
        alike(0, "ARRAY [0 .. 9] OF in", "ARRAY [0 .. 8] OF INTEGER");
        alike(0, "ARRAY [0 .. 9] OF in", "ARRAY [0 .. 9] OF [0 .. 1]");
        alike(0, "ARRAY [0 .. 0] OF in", "RECORD a : in; END");
        alike(1, "REF in", "REF INTEGER");
        alike(0, "REF in", "REF BOOLEAN");
        alike(0, "REF in", "in");
    }

    /** "RECORDs with the same names in the same order". */
    private static void parts() {
        alike(1, "RECORD END", "RECORD END");
        alike(0, "RECORD END", "RECORD a : in; END");
        alike(1, "RECORD a, b : in; END", "RECORD a : INTEGER; b : in; END");
        alike(0, "RECORD a, b : in; END", "RECORD a : in; END");
        alike(0, "RECORD a, b : in; END", "RECORD b, a : in; END");
        alike(0, "RECORD a, b : in; END", "RECORD a, c : in; END");
        alike(0, "RECORD a, b : in; END", "RECORD a, B : in; END");
        alike(0, "RECORD a, b : in; END", "RECORD a : in; b : BOOLEAN; END");
        alike(0, "RECORD a : in; END", "OBJECT a : in; END");
    }

    /** "SIGNATUREs whose FORMALs are alike one by one, VAR or not (names do not count), with alike RESULTs and the same EXCEPTIONs in their SETs (none: an empty one)". */
    private static void signatures() {
        alike(1, "PROCEDURE (a : in; VAR b : in)", "PROCEDURE (c : in; VAR a : INTEGER)");
        alike(0, "PROCEDURE (a : in; VAR b : in)", "PROCEDURE (VAR a : in; b : in)");
        alike(0, "PROCEDURE (a, b : in)", "PROCEDURE (a : in)");
        alike(0, "PROCEDURE (a : in)", "PROCEDURE ()");
        alike(0, "PROCEDURE (a : in; b : BOOLEAN)", "PROCEDURE (b : BOOLEAN; a : in)");
        alike(1, "PROCEDURE () : in", "PROCEDURE () : INTEGER");
        alike(0, "PROCEDURE () : in", "PROCEDURE ()");
        alike(0, "PROCEDURE () : in", "PROCEDURE () : BOOLEAN");
        alike(1, "PROCEDURE ()", "PROCEDURE () RAISES { }");
        alike(0, "PROCEDURE ()", "PROCEDURE () RAISES { e }");
        alike(0, "PROCEDURE () RAISES { e }", "PROCEDURE () RAISES { g }");
        alike(1, "PROCEDURE () RAISES { e, g }", "PROCEDURE () RAISES { g, e, e }");
        alike(0, "PROCEDURE () RAISES { e, g }", "PROCEDURE () RAISES { g }");
        // EXCEPTIONs of one NAME that are told in two units are two
        LevelUnits x = T.reading("INTERFACE A; EXCEPTION e; TYPE t = PROCEDURE () RAISES { e }; END A. INTERFACE B; IMPORT A; EXCEPTION e; TYPE t = PROCEDURE () RAISES { e };"
                + " TYPE u = PROCEDURE () RAISES { A.e }; TYPE v = PROCEDURE () RAISES { A.e, e }; END B.", 0);
        int[] least = {0, 1, 0, 3};
        for (int i = 0; i < 4; i++) {
            T.due("least of " + i, x.type(i, 5), least[i]);
        }
    }

    /** "LEVELs with alike SUPERs, the same FIELDS and METHODS (names, order; alike types, SIGNATUREs; each with the same PROCEDURE, or none) and OVERRIDES (as a set)". */
    private static void levels() {
        alike(1, "OBJECT END", "ROOT OBJECT END");
        alike(0, "OBJECT END", "ROOT");
        alike(0, "OBJECT END", "lo OBJECT END");
        alike(1, "lo OBJECT END", "lo OBJECT METHODS OVERRIDES END");
        alike(0, "op OBJECT END", "oq OBJECT END");
        alike(0, "OBJECT a, b : in; END", "OBJECT b, a : in; END");
        alike(0, "OBJECT a : in; END", "OBJECT a : BOOLEAN; END");
        alike(0, "OBJECT a : PROCEDURE (); END", "OBJECT METHODS a (); END");
        alike(1, "OBJECT METHODS a (x : in); END", "OBJECT METHODS a (y : INTEGER) RAISES { }; END");
        alike(0, "OBJECT METHODS a (x : in); END", "OBJECT METHODS a (VAR x : in); END");
        alike(0, "OBJECT METHODS a () : in; END", "OBJECT METHODS a (); END");
        alike(0, "OBJECT METHODS a () RAISES { e }; END", "OBJECT METHODS a (); END");
        alike(0, "OBJECT METHODS a (); END", "OBJECT METHODS b (); END");
        alike(0, "OBJECT METHODS a (); b (); END", "OBJECT METHODS b (); a (); END");
        alike(0, "OBJECT METHODS a (); END", "OBJECT METHODS a (); b (); END");
        alike(1, "OBJECT METHODS a () := p; END", "OBJECT METHODS a () := p; END");
        alike(0, "OBJECT METHODS a () := p; END", "OBJECT METHODS a () := q; END");
        alike(0, "OBJECT METHODS a () := p; END", "OBJECT METHODS a (); END");
        alike(1, "lo OBJECT OVERRIDES m := p; n := p; END", "lo OBJECT OVERRIDES n := p; m := p; END");
        alike(0, "lo OBJECT OVERRIDES m := p; n := q; END", "lo OBJECT OVERRIDES m := q; n := p; END");
        alike(0, "lo OBJECT OVERRIDES m := p; n := p; END", "lo OBJECT OVERRIDES n := p; END");
        alike(0, "lo OBJECT OVERRIDES m := p; END", "lo OBJECT OVERRIDES n := p; END");
        alike(0, "lo OBJECT a : in; OVERRIDES m := p; END", "lo OBJECT OVERRIDES m := p; END");
        alike(0, "lo OBJECT METHODS a (); OVERRIDES m := p; END", "lo OBJECT METHODS a (); END");
        // "a PROCEDURE that is told and made is one"; two of one NAME are two
        LevelUnits x = T.reading("INTERFACE A; PROCEDURE p (s : ROOT); TYPE t = OBJECT METHODS m () := p; END; END A. INTERFACE B; PROCEDURE p (s : ROOT); TYPE t = OBJECT METHODS m () := p; END; END B.\n"
                + "MODULE A; PROCEDURE p (s : ROOT) = BEGIN END p; TYPE t2 = OBJECT METHODS m () := p; END; BEGIN END A."
                + " MODULE B; IMPORT A; PROCEDURE p (s : ROOT) = BEGIN END p; TYPE t2 = OBJECT METHODS m () := p; END; TYPE t3 = OBJECT METHODS m () := A.p; END; BEGIN END B.", 0);
        int[] least = {0, 1, 0, 1, 0};
        for (int i = 0; i < 5; i++) {
            T.due("least of " + i, x.type(i, 5), least[i]);
        }
    }

    /** "A name of TYPE <: (an OPAQUE type) stands for itself and is alike itself alone"; "the LEVEL of a REVEAL = is no type by itself". */
    private static void opaque() {
        alike(1, "op", "op");
        alike(0, "op", "oq");
        alike(0, "op", "OBJECT END");
        alike(0, "op", "ROOT");
        alike(1, "REF op", "REF op");
        alike(0, "REF op", "REF oq");
        alike(0, "RECORD a : op; END", "RECORD a : OBJECT END; END");
    }

    /** "a ring may be written in many ways: the greatest relation that the rules allow". */
    private static void rings() {
        alike(1, "REF one", "REF REF two");
        alike(1, "REF one", "REF REF REF one");
        alike(0, "REF one", "REF REF in");
        alike(1, "RECORD a : REF one; END", "RECORD a : REF RECORD a : REF two; END; END");
        alike(0, "RECORD a : REF one; END", "RECORD a : REF RECORD b : REF two; END; END");
        alike(1, "OBJECT a : one; END", "OBJECT a : OBJECT a : OBJECT a : two; END; END; END");
        alike(1, "PROCEDURE (a : one) : one", "PROCEDURE (a : PROCEDURE (b : two) : one) : two");
        alike(0, "PROCEDURE (a : one) : one", "PROCEDURE (a : PROCEDURE (VAR b : two) : one) : two");
        alike(1, "OBJECT METHODS m (a : one); END", "OBJECT METHODS m (b : two); END");
        alike(1, "REF ARRAY [0 .. 1] OF one", "REF ARRAY [0 .. 1] OF REF ARRAY [0 .. 1] OF one");
        alike(0, "REF ARRAY [0 .. 1] OF one", "REF ARRAY [0 .. 1] OF REF ARRAY [0 .. 2] OF one");
        // rings of three and of two are one of one; that of four has another way within
        LevelUnits x = T.reading("INTERFACE A; TYPE a = REF b; TYPE b = REF c; TYPE c = REF a; TYPE d = REF e; TYPE e = REF d; TYPE f = REF f; TYPE g = REF h; TYPE h = REF i; TYPE i = REF j;"
                + " TYPE j = RECORD n : g; END; END A.", 0);
        int[] least = {0, 0, 0, 0, 0, 0, 6, 7, 8, 9};
        for (int i = 0; i < least.length; i++) {
            T.due("least of " + i, x.type(i, 5), least[i]);
        }
        // "What is itself by names alone is the first TYPE of its ring, which is alike itself alone."
        String fits = "TYPE t = OBJECT METHODS m (x : r); END; TYPE u = t OBJECT OVERRIDES m := p; END; PROCEDURE p (s : t; x : q) = BEGIN END p;\n";
        fault(8, 3, fits + "TYPE r = q; TYPE q = r;");
        fault(8, 3, fits + "TYPE r = z; TYPE q = r; TYPE z = q;");
        fault(11, 2, fits + "TYPE r = r; TYPE q = q;");
        fault(8, 3, fits + "TYPE r = z; TYPE q = y; TYPE y = z; TYPE z = r;");
        fault(11, 2, fits + "TYPE r = INTEGER; TYPE q = q;");
    }

    private static void below(int want, LevelUnits x, int u, int i, int j) {
        T.due("below(" + u + ", " + i + ", " + j + ")", x.below(u, i, j), want);
    }

    /** "a RANGE below INTEGER, and below a RANGE that has all of it". */
    private static void belowRanges() {
        LevelUnits x = T.reading("INTERFACE A; TYPE r = [2 .. 5]; TYPE s = [2 .. 5]; TYPE l = [1 .. 5]; TYPE h = [2 .. 6]; TYPE m = [3 .. 5]; TYPE n = [2 .. 4]; TYPE o = [3 .. 6]; TYPE i = INTEGER;"
                + " TYPE a = [- 2147483647 .. 2147483647]; TYPE b = BOOLEAN; END A.", 0);
        int[] up = {1, 1, 1, 1, 0, 0, 0, 1, 1, 0};
        int[] down = {1, 1, 0, 0, 1, 1, 0, 0, 0, 0};
        for (int i = 0; i < up.length; i++) {
            below(up[i], x, 0, 0, i);
            below(down[i], x, 0, i, 0);
        }
        below(0, x, 0, 7, 8);
        below(1, x, 0, 8, 7);
    }

    /** "a PROCEDURE type below one that is alike but for its SET, which has all EXCEPTIONs of the former one's". */
    private static void belowProcedures() {
        LevelUnits x = T.reading("INTERFACE A; EXCEPTION e; EXCEPTION g; TYPE o = OBJECT END; TYPE p = PROCEDURE (a : o) : o RAISES { e }; TYPE q = PROCEDURE (b : o) : o RAISES { g, e }; TYPE n = PROCEDURE (a : o) : o;"
                + " TYPE g1 = PROCEDURE (a : o) : o RAISES { g }; TYPE v = PROCEDURE (VAR a : o) : o RAISES { e }; TYPE r = PROCEDURE (a : o) : ROOT RAISES { e }; TYPE w = PROCEDURE (a : ROOT) : o RAISES { e };"
                + " TYPE k = PROCEDURE (a, b : o) : o RAISES { e }; TYPE z = PROCEDURE (a : o) RAISES { e }; END A.", 0);
        int[] up = {0, 1, 1, 0, 0, 0, 0, 0, 0, 0};
        int[] down = {0, 1, 0, 1, 0, 0, 0, 0, 0, 0};
        for (int i = 0; i < up.length; i++) {
            below(up[i], x, 0, 1, i);
            below(down[i], x, 0, i, 1);
        }
        below(1, x, 0, 3, 2);
        below(1, x, 0, 4, 2);
        below(0, x, 0, 2, 4);
    }

    /** "an OBJECT type below what is above it, and so on"; no others. */
    private static void belowObjects() {
        LevelUnits x = T.reading("INTERFACE A; TYPE r = ROOT; TYPE a = OBJECT END; TYPE b = a OBJECT END; TYPE c = b OBJECT END; TYPE d = a OBJECT x : d; END; TYPE e = RECORD END; TYPE f = REF b; TYPE g = REF a;"
                + " TYPE m = MUTEX; END A.", 0);
        int[][] want = {{1, 0, 0, 0, 0, 0, 0, 0, 0}, {1, 1, 0, 0, 0, 0, 0, 0, 0}, {1, 1, 1, 0, 0, 0, 0, 0, 0}, {1, 1, 1, 1, 0, 0, 0, 0, 0}, {1, 1, 0, 0, 1, 0, 0, 0, 0}, {0, 0, 0, 0, 0, 1, 0, 0, 0},
            {0, 0, 0, 0, 0, 0, 1, 0, 0}, {0, 0, 0, 0, 0, 0, 0, 1, 0}, {0, 0, 0, 0, 0, 0, 0, 0, 1}};
        for (int i = 0; i < want.length; i++) {
            for (int j = 0; j < want.length; j++) {
                below(want[i][j], x, 0, i, j);
            }
        }
    }

    /** "UNIT u SEES the REVEALs that stand in it, in the INTERFACEs that it imports and, of a MODULE, in its INTERFACE; all units see TYPE <:." */
    private static void seenReveals() {
        LevelUnits x = T.reading("INTERFACE A; TYPE a = OBJECT END; TYPE b = a OBJECT END; TYPE o <: ROOT; END A.\n"
                + "INTERFACE B; IMPORT A; REVEAL A.o <: A.a; END B.\n"
                + "MODULE B; BEGIN END B.\n"
                + "INTERFACE C; IMPORT B; END C.\n"
                + "MODULE C; BEGIN END C.\n"
                + "MODULE D; IMPORT B; BEGIN END D.\n"
                + "INTERFACE E; END E.\n"
                + "MODULE E; IMPORT A; REVEAL A.o = A.b OBJECT END; BEGIN END E.\n"
                + "MODULE F; IMPORT E, A; BEGIN END F.\n"
                + "MODULE A; BEGIN END A.", 0);
        // in it; of a MODULE in its INTERFACE; in those that it imports; not in what these import; not in the MODULE of an INTERFACE
        int[] sees = {2, 3, 3, 3, 2, 3, 2, 4, 2, 2};
        for (int u = 0; u < sees.length; u++) {
            T.due("sees(" + u + ", 2)", x.sees(u, 2), sees[u]);
            below(sees[u] >= 3 ? 1 : 0, x, u, 2, 0);
            below(sees[u] >= 4 ? 1 : 0, x, u, 2, 1);
            T.due("sees(" + u + ", 1)", x.sees(u, 1), 3);
        }
        T.due("type(2, 4)", x.type(2, 4), 4);
        T.due("sees(10, 2)", x.sees(10, 2), -1);
        T.due("sees(9, 3)", x.sees(9, 3), -1);
    }

    /** "of the types (itself is none) that its TYPE <: and the REVEAL <: that u sees tell of it that which is lowest in its WHOLE CHAIN". */
    private static void lowest() {
        LevelUnits x = T.reading("INTERFACE A; TYPE a = OBJECT END; TYPE b = a OBJECT END; TYPE c = b OBJECT END; TYPE d = c OBJECT END; TYPE o <: b; TYPE p <: o; END A.\n"
                + "INTERFACE B; IMPORT A; REVEAL A.o <: A.a; REVEAL A.o <: A.c; REVEAL A.o <: ROOT; END B.\n"
                + "INTERFACE C; IMPORT A; REVEAL A.o <: A.a; REVEAL A.p <: ROOT; END C.\n"
                + "MODULE D; IMPORT B, A; REVEAL A.o = A.d OBJECT x : INTEGER; END; BEGIN END D.\n"
                + "MODULE E; IMPORT C, A; TYPE q = A.p OBJECT END; REVEAL A.p = A.o OBJECT y : INTEGER; END; BEGIN END E.\n"
                + "MODULE F; IMPORT B, C; BEGIN END F.", 0);
        // o: o, d, c, b, a, ROOT; p: p, then o
        int[] seesO = {4, 5, 4, 6, 4, 5};
        for (int u = 0; u < 6; u++) {
            T.due("sees(" + u + ", 4)", x.sees(u, 4), seesO[u]);
            T.due("sees(" + u + ", 5)", x.sees(u, 5), seesO[u] + 1);
            T.due("sees(" + u + ", 6)", x.sees(u, 6), seesO[u] + 2);
            below(1, x, u, 4, 1);
            below(seesO[u] >= 5 ? 1 : 0, x, u, 4, 2);
            below(seesO[u] >= 6 ? 1 : 0, x, u, 4, 3);
            below(seesO[u] >= 6 ? 1 : 0, x, u, 6, 3);
        }
        T.due("type(4, 4)", x.type(4, 4), 6);
        T.due("type(6, 4)", x.type(6, 4), 8);
    }

    /** "8 a TYPE = that is itself by names alone, or holds itself by RECORDs and ARRAYs (not by REF, LEVEL, PROCEDURE)". */
    private static void holdsItself() {
        fault(8, 2, "TYPE a = a;");
        fault(8, 2, "TYPE a = b; TYPE b = c; TYPE c = a;");
        fault(8, 3, "TYPE d = a;\nTYPE a = b; TYPE b = a;");
        good("TYPE a = b; TYPE b = c; TYPE c = INTEGER;");
        fault(8, 2, "TYPE a = RECORD x : a; END;");
        fault(8, 2, "TYPE a = ARRAY [1 .. 1] OF a;");
        fault(8, 2, "TYPE a = RECORD x : INTEGER; y : ARRAY [0 .. 1] OF RECORD z : BOOLEAN; v : a; END; END;");
        fault(8, 2, "TYPE a = RECORD x : b; END;\nTYPE b = c;\nTYPE c = ARRAY [0 .. 1] OF a;");
        fault(8, 3, "TYPE c = RECORD x : a; END;\nTYPE a = RECORD x : a; END;");
        good("TYPE a = RECORD x : REF a; END;", "TYPE a = REF a;", "TYPE a = RECORD x : OBJECT y : a; END; END;", "TYPE a = RECORD x : PROCEDURE (y : a); END;",
                "TYPE a = RECORD x : OBJECT METHODS m (y : a) : REF a; END; END;", "TYPE a = ARRAY [0 .. 1] OF REF ARRAY [0 .. 1] OF a;", "TYPE a = ARRAY [0 .. 1] OF PROCEDURE (VAR v : a);",
                "TYPE a = PROCEDURE () : a;", "TYPE a = RECORD x, y : b; END; TYPE b = RECORD x, y : c; END; TYPE c = RECORD END;", "TYPE a = OBJECT x : a; END; TYPE b = RECORD x : a; END;");
        fault(8, 2, "TYPE a = RECORD x : REF a; y : b; END; TYPE b = RECORD z : a; END;");
        fault(8, 2, "TYPE a = RECORD x : a; y : b; END; TYPE b = INTEGER;");
        // at the first one of the ring, whatever stands ahead of it or leads to it
        fault(8, 3, "TYPE z = INTEGER;\nTYPE a = RECORD x : b; END;\nTYPE b = RECORD x : a; END;");
        fault(8, 3, "TYPE z = RECORD x : a; END;\nTYPE a = RECORD x : b; END;\nTYPE b = RECORD x : a; END;");
        fault(8, 2, "TYPE a = RECORD x : c; y : b; z : b; v : b; END;\nTYPE b = INTEGER;\nTYPE c = RECORD x : a; END;");
        // what is behind a REF, in a LEVEL or SIGNATURE, or in another DECLARATION, is not held
        for (String s : new String[] {"REF a", "REF RECORD y : a; END", "OBJECT y : a; END", "ROOT OBJECT y : a; END", "s OBJECT y : a; METHODS m (z : a); END", "PROCEDURE (y : a)", "PROCEDURE () : REF a"}) {
            fault(9, 2, "TYPE a = RECORD x : " + s + "; n : ARRAY [1 .. 0] OF INTEGER; END; TYPE s = OBJECT END;");
            fault(8, 2, "TYPE a = RECORD x : " + s + "; n : ARRAY [1 .. 1] OF a; END; TYPE s = OBJECT END;");
        }
        fault(9, 2, "TYPE a = ARRAY [1 .. 0] OF INTEGER; VAR v : a; PROCEDURE p (x : a) = VAR l : a; BEGIN END p; TYPE o <: ROOT; REVEAL o = OBJECT f : a; END;");
    }

    /** "an OBJECT type that comes to itself by what is above it (at each TYPE =, REVEAL = that is in the ring)". */
    private static void objectRings() {
        fault(8, 2, "TYPE a = a OBJECT END;");
        fault(8, 2, "TYPE a = b OBJECT END;\nTYPE b = a OBJECT END;");
        fault(8, 3, "TYPE c = a OBJECT END;\nTYPE a = b OBJECT END; TYPE b = a OBJECT END;");
        fault(8, 4, "TYPE c = OBJECT x : a; END;\nVAR v : a;\nTYPE a = b OBJECT END; TYPE b = a OBJECT END;");
        fault(8, 3, "VAR v : a OBJECT END;\nTYPE a = a OBJECT END;");
        good("TYPE a = b OBJECT x : a; METHODS m (s : a) : a; END; TYPE b = c OBJECT x : a; END; TYPE c = OBJECT x : a; END;");
        fault(8, 2, "TYPE a = o OBJECT END;\nTYPE o <: ROOT;\nREVEAL o = a OBJECT END;");
        fault(8, 2, "REVEAL o = a OBJECT END;\nTYPE a = o OBJECT END;\nTYPE o <: ROOT;");
        fault(8, 2, "REVEAL o = p OBJECT END; REVEAL p = o OBJECT END;\nTYPE o <: ROOT; TYPE p <: ROOT;");
        fault(8, 2, "REVEAL o = o OBJECT END;\nTYPE o <: ROOT;");
        good("REVEAL o = a OBJECT END; TYPE a = p OBJECT END; TYPE o <: ROOT; TYPE p <: ROOT; REVEAL p = OBJECT x : o; END;");
        // a REVEAL <: makes no ring
        fault(10, 3, "TYPE o <: ROOT; REVEAL o = OBJECT END; TYPE a = o OBJECT END;\nREVEAL o <: a;");
    }

    /** "it ends at what is no OBJECT type, at an OPAQUE one without REVEAL =, and ahead of a type that was there". */
    private static void wholeChainOfRing() {
        fault(10, 2, "TYPE o <: ROOT;\nTYPE a = o OBJECT END;\nREVEAL o = a OBJECT END;");
        fault(8, 3, "TYPE o <: a;\nTYPE a = o OBJECT END;\nREVEAL o = a OBJECT END;");
        fault(10, 2, "TYPE o <: ROOT; REVEAL o = p OBJECT END;\nTYPE p <: ROOT;");
        fault(10, 3, "TYPE o <: p; REVEAL o = p OBJECT END;\nTYPE p <: ROOT;");
        fault(10, 2, "TYPE o <: ROOT;\nREVEAL o = i OBJECT END; TYPE i = INTEGER;");
        fault(10, 2, "TYPE o <: i;\nREVEAL o = i OBJECT END; TYPE i = INTEGER;");
    }

    /** "9 A first bound above the second one". */
    private static void firstBound() {
        String[] types = {"[#]", "REF [#]", "ARRAY [#] OF INTEGER", "ARRAY [#] OF RECORD END", "RECORD a : [#]; END", "PROCEDURE (a : [#])", "PROCEDURE () : [#]", "OBJECT METHODS m (VAR a : [#]); END"};
        for (String t : types) {
            for (String b : new String[] {"1 .. 1", "0 .. 1", "- 1 .. - 1", "- 2 .. - 1", "- 1 .. 1", "2147483647 .. 2147483647", "- 2147483647 .. - 2147483647"}) {
                good("TYPE t = " + t.replace("#", b) + ";");
            }
            for (String b : new String[] {"2 .. 1", "1 .. 0", "- 1 .. - 2", "1 .. - 1", "2147483647 .. 2147483646", "2147483647 .. - 2147483647"}) {
                fault(9, 2, "TYPE t = " + t.replace("#", b) + ";");
            }
        }
    }

    /** "an ARRAY of more than 1,000 elements". */
    private static void elements() {
        for (String of : new String[] {"INTEGER", "RECORD END", "REF t", "RECORD a, b : BOOLEAN; END"}) {
            good("TYPE t = ARRAY [1 .. 1000] OF " + of + ";", "TYPE t = ARRAY [0 .. 999] OF " + of + ";", "TYPE t = ARRAY [- 500 .. 499] OF " + of + ";",
                    "TYPE t = ARRAY [2147482648 .. 2147483647] OF " + of + ";", "TYPE t = ARRAY [- 2147483647 .. - 2147482648] OF " + of + ";");
            for (String b : new String[] {"1 .. 1001", "0 .. 1000", "- 500 .. 500", "2147482647 .. 2147483647", "- 2147483647 .. - 2147482647", "- 2147483647 .. 2147483647", "0 .. 2147483647"}) {
                fault(9, 2, "TYPE t = ARRAY [" + b + "] OF " + of + ";");
            }
        }
        fault(9, 2, "TYPE t = ARRAY [1 .. 1] OF ARRAY [1 .. 1001] OF RECORD END;");
        fault(9, 2, "TYPE t = REF ARRAY [1 .. 1001] OF INTEGER;");
    }

    /** "an ARRAY or RECORD (where it is written) of more than 2,000 CELLS". */
    private static void partCells() {
        String k = "TYPE k = ARRAY [1 .. 1000] OF INTEGER;\n";
        good("TYPE t = ARRAY [1 .. 1000] OF RECORD a, b : INTEGER; END;");
        good("TYPE t = ARRAY [1 .. 40] OF ARRAY [1 .. 50] OF INTEGER;");
        fault(9, 2, "TYPE t = ARRAY [1 .. 667] OF RECORD a, b, c : INTEGER; END;");
        good("TYPE t = ARRAY [1 .. 666] OF RECORD a, b, c : INTEGER; END;");
        good(k + "TYPE t = RECORD a, b : k; END;");
        fault(9, 3, k + "TYPE t = RECORD a, b : k; c : INTEGER; END;");
        fault(9, 3, k + "TYPE t = RECORD c : INTEGER; a, b : k; END;");
        good(k + "TYPE t = RECORD a, b : k; c : RECORD END; END;");
        good(k + "TYPE t = RECORD a, b : k; END; VAR v : REF RECORD a : t; END;");
        fault(9, 3, k + "VAR v : REF RECORD a, b, c : k; END;");
        fault(9, 4, k + "TYPE t = RECORD\na : REF RECORD b, c, d : k; END; END;");
        fault(9, 3, k + "TYPE t = ARRAY [1 .. 3] OF k;\nVAR v : t;");
        // an OBJECT, a REF and what its LEVEL has are no part of it
        good(k + "TYPE t = OBJECT a, b, c : k; END; TYPE u = RECORD a, b, c : t; END; TYPE v = ARRAY [1 .. 1000] OF REF k; TYPE w = PROCEDURE (a, b, c : k);");
        // far beyond
        fault(9, 2, "TYPE t = ARRAY [1 .. 1000] OF ARRAY [1 .. 1000] OF ARRAY [1 .. 1000] OF ARRAY [1 .. 1000] OF INTEGER;");
        fault(9, 2, "TYPE t = ARRAY [0 .. 2147483647] OF ARRAY [0 .. 2147483647] OF ARRAY [0 .. 2147483647] OF INTEGER;");
    }

    /** "more than 5,000 CELLS of VARs of units (at the one that is too much)". */
    private static void unitCells() {
        String two = "TYPE two = ARRAY [1 .. 1000] OF RECORD a, b : INTEGER; END; TYPE one = ARRAY [1 .. 1000] OF INTEGER; VAR v, w : two;\n";
        good(two + "VAR x : one;");
        fault(9, 3, two + "VAR x : one; VAR y : INTEGER;");
        fault(9, 4, two + "VAR x : one;\nVAR y : INTEGER;\nVAR z : INTEGER;");
        fault(9, 4, two + "VAR x : INTEGER;\nVAR y : one;\nVAR z : INTEGER;");
        good(two + "VAR x : one; VAR y : RECORD END;");
        fault(9, 3, two + "VAR x : two;");
        fault(9, 3, two + "VAR x, y, z, x1, x2, x3 : two;");
        // over all units; LOCALS, FORMALs and NEW are none
        String a = "INTERFACE A; " + two + "END A.\n";
        LevelUnits x = T.reading(a + "MODULE B; IMPORT A; VAR x : A.one; PROCEDURE p (y : A.two) = VAR z : A.two; BEGIN END p; VAR r : RECORD END; BEGIN END B.", 0);
        T.due("count(4)", x.count(4), 5000);
        T.fault(9, 4, a + "MODULE B; IMPORT A; VAR x : A.one;\nVAR y : BOOLEAN; BEGIN END B.");
        T.fault(9, 4, a + "MODULE B; IMPORT A; VAR x : A.one; BEGIN END B.\nMODULE C; VAR y : BOOLEAN; BEGIN END C.");
    }

    /** "a RESULT that is an ARRAY or RECORD". */
    private static void results() {
        String k = "TYPE k = ARRAY [1 .. 1] OF INTEGER; TYPE r = RECORD END; TYPE k2 = k;\n";
        for (String t : new String[] {"k", "r", "k2", "ARRAY [0 .. 1] OF INTEGER", "RECORD a : INTEGER; END"}) {
            fault(9, 3, k + "PROCEDURE p () : " + t + " = BEGIN END p;");
            fault(9, 3, k + "TYPE t = PROCEDURE () : " + t + ";");
            fault(9, 3, k + "TYPE t = REF PROCEDURE (a : PROCEDURE () : " + t + ");");
            fault(9, 4, k + "TYPE t = OBJECT METHODS\nm () : " + t + "; END;");
            good(k + "TYPE t = PROCEDURE () : REF " + t + ";", k + "PROCEDURE p (a : " + t + ") = BEGIN END p;");
        }
        good(k + "TYPE t = PROCEDURE () : OBJECT a : k; END;");
    }

    /** "of a TYPE = that is itself or holds itself, an ARRAY whose first bound is above the second one, and what has such a part, none: no other 9 by these". */
    private static void noOtherNine() {
        String[] none = {"TYPE a = a;", "TYPE a = RECORD x, y : a; END;", "TYPE a = ARRAY [1 .. 900] OF a;"};
        for (String s : none) {
            fault(8, 4, "VAR v : ARRAY [1 .. 1000] OF RECORD x, y, z : a; END;\nVAR w : RECORD k : ARRAY [1 .. 1000] OF INTEGER; l : ARRAY [1 .. 1000] OF INTEGER; m : INTEGER; n : a; END;\n" + s);
            fault(8, 3, "VAR v1, v2, v3, v4, v5, v6 : ARRAY [1 .. 1000] OF a;\n" + s);
        }
        fault(9, 4, "VAR v : RECORD k : ARRAY [1 .. 1000] OF INTEGER; l : ARRAY [1 .. 1000] OF INTEGER; m : INTEGER; n : a; END;\nVAR w : ARRAY [1 .. 1000] OF ARRAY [1 .. 1000] OF a;\nTYPE a = ARRAY [1 .. 0] OF INTEGER;");
        fault(9, 4, "VAR v1, v2, v3, v4, v5, v6 : RECORD x : ARRAY [1 .. 1000] OF INTEGER; y : a; END;\n\nTYPE a = ARRAY [1 .. 0] OF INTEGER;");
        // a RANGE has 1 CELL, whatever its bounds
        fault(9, 2, "VAR v : ARRAY [1 .. 1000] OF RECORD x, y, z : a; END;\nTYPE a = [1 .. 0];");
        // a REF, a LEVEL or a PROCEDURE of such a type has 1, too
        fault(9, 2, "VAR v : ARRAY [1 .. 1000] OF RECORD x, y, z : REF a; END;\nTYPE a = a;");
    }

    /** "10 A SUPER, or the TYPE behind <: , that is no OBJECT type". */
    private static void noObjectType() {
        String[] no = {"INTEGER", "BOOLEAN", "MUTEX", "CONDITION", "THREAD", "[0 .. 1]", "REF ROOT", "RECORD END", "ARRAY [0 .. 1] OF ROOT", "PROCEDURE ()"};
        for (String t : no) {
            fault(10, 3, "TYPE n = " + t + ";\nTYPE t = n OBJECT END;");
            fault(10, 3, "TYPE n = " + t + ";\nVAR v : REF n OBJECT END;");
            fault(10, 2, "TYPE t <: " + t + "; REVEAL t = OBJECT END;");
            fault(10, 3, "TYPE t <: ROOT; REVEAL t = OBJECT END;\nREVEAL t <: " + t + ";");
            fault(10, 3, "TYPE n = " + t + "; TYPE o = OBJECT END;\nTYPE t <: n; REVEAL t = OBJECT END;");
        }
        for (String t : new String[] {"ROOT", "OBJECT END", "b OBJECT END", "b", "o"}) {
            good("TYPE b = OBJECT END; TYPE o <: ROOT; REVEAL o = OBJECT END; TYPE n = " + t + "; TYPE t = n OBJECT END; TYPE s <: n; REVEAL s = t OBJECT END;");
        }
    }

    /** "a REVEAL of what is not OPAQUE; a second REVEAL = of a type; an OPAQUE type without any (at its TYPE)". */
    private static void reveals() {
        for (String t : new String[] {"INTEGER", "ROOT", "OBJECT END", "REF ROOT", "RECORD END"}) {
            fault(10, 3, "TYPE n = " + t + ";\nREVEAL n <: ROOT;");
            fault(10, 3, "TYPE n = " + t + ";\nREVEAL n = OBJECT END;");
        }
        good("TYPE o <: ROOT; REVEAL o = OBJECT END;");
        good("TYPE o <: ROOT; REVEAL o <: ROOT; REVEAL o <: ROOT; REVEAL o = OBJECT END; TYPE n = o; REVEAL n <: ROOT;");
        fault(10, 3, "TYPE o <: ROOT; REVEAL o = OBJECT END;\nREVEAL o = OBJECT END;");
        fault(10, 2, "REVEAL o = OBJECT END; REVEAL o = OBJECT END;\nTYPE o <: ROOT;");
        fault(10, 4, "REVEAL o = OBJECT END;\nTYPE o <: ROOT; TYPE n = o;\nREVEAL n = OBJECT END;");
        fault(10, 2, "TYPE o <: ROOT;");
        fault(10, 2, "TYPE o <: ROOT;\nREVEAL o <: ROOT;");
        T.reading("INTERFACE A; TYPE o <: ROOT; END A. MODULE B; IMPORT A; REVEAL A.o = OBJECT END; BEGIN END B.", 0);
        T.fault(10, 2, "INTERFACE A;\nTYPE o <: ROOT; END A. MODULE B; IMPORT A; BEGIN END B.");
        T.fault(10, 3, "INTERFACE A; TYPE o <: ROOT; END A. MODULE B; IMPORT A; REVEAL A.o = OBJECT END; BEGIN END B.\n\nMODULE A; REVEAL o = OBJECT END; BEGIN END A.");
    }

    /** "TYPE <: or REVEAL <: that tells a type that is not above it in its WHOLE CHAIN (itself is not)". */
    private static void told() {
        String c = "TYPE a = OBJECT END; TYPE b = a OBJECT x : INTEGER; END; TYPE c = b OBJECT END; TYPE z = OBJECT y : INTEGER; END;\n";
        for (String t : new String[] {"ROOT", "a", "b", "OBJECT END", "a OBJECT x : INTEGER; END"}) {
            good(c + "TYPE o <: " + t + "; REVEAL o = b OBJECT END; REVEAL o <: " + t + ";");
        }
        for (String t : new String[] {"c", "z", "o", "ROOT OBJECT x : INTEGER; END", "a OBJECT END"}) {
            fault(10, 4, c + "\nTYPE o <: " + t + "; REVEAL o = b OBJECT END;");
            fault(10, 4, c + "TYPE o <: ROOT; REVEAL o = b OBJECT END;\nREVEAL o <: " + t + ";");
        }
        fault(10, 2, "TYPE o <: p; REVEAL o = OBJECT END;\nTYPE p <: o; REVEAL p = o OBJECT END;");
        good("TYPE o <: p; REVEAL o = p OBJECT END; TYPE p <: ROOT; REVEAL p = OBJECT END; REVEAL o <: ROOT;");
    }

    private static final String OVER = "TYPE t = OBJECT f : INTEGER; METHODS m (x : INTEGER) : t RAISES { e }; END; PROCEDURE p (s : t; x : INTEGER) : t = BEGIN RETURN s; END p; PROCEDURE n (s : t) = BEGIN END n;\n";

    /** "11 OVERRIDES of what is no METHOD: the nearest FIELD or METHOD of that NAME from the SUPER on upwards, as the unit sees it in which the LEVEL stands". */
    private static void overrides() {
        good(OVER + "TYPE u = t OBJECT OVERRIDES m := p; END;");
        good(OVER + "TYPE u = t OBJECT m : INTEGER; OVERRIDES m := p; END;");
        good(OVER + "TYPE u = t OBJECT END; TYPE v = u OBJECT OVERRIDES m := p; END;");
        fault(11, 3, OVER + "TYPE u = t OBJECT OVERRIDES k := p; END;");
        fault(11, 3, OVER + "TYPE u = t OBJECT OVERRIDES f := p; END;");
        fault(11, 3, OVER + "TYPE u = OBJECT OVERRIDES m := p; END;");
        fault(11, 3, OVER + "TYPE u = OBJECT METHODS m (x : INTEGER) : t; OVERRIDES m := p; END;");
        fault(11, 3, OVER + "TYPE v = t OBJECT m : INTEGER; END; TYPE u = v OBJECT OVERRIDES m := p; END;");
        good(OVER + "TYPE v = t OBJECT m : INTEGER; END; TYPE w = v OBJECT METHODS m (); END; TYPE u = w OBJECT OVERRIDES m := n; END;");
        fault(11, 3, OVER + "TYPE v = t OBJECT METHODS m (); END; TYPE u = v OBJECT OVERRIDES m := p; END;");
        // a METHOD of a LEVEL that the unit does not see is none; the one that it sees is meant
        String a = "INTERFACE A; TYPE t = OBJECT METHODS m (x : INTEGER); END; TYPE o <: t; PROCEDURE p (s : t; x : INTEGER); PROCEDURE n (s : t); END A.\n"
                + "MODULE A; REVEAL o = t OBJECT METHODS m (); k (); END; PROCEDURE p (s : t; x : INTEGER) = BEGIN END p; PROCEDURE n (s : t) = BEGIN END n;\n";
        T.reading(a + "TYPE u = o OBJECT OVERRIDES m := n; k := n; END; BEGIN END A.", 0);
        T.fault(11, 3, a + "TYPE u = o OBJECT OVERRIDES m := p; END; BEGIN END A.");
        T.reading(a + "BEGIN END A. MODULE B; IMPORT A; TYPE u = A.o OBJECT OVERRIDES m := A.p; END; BEGIN END B.", 0);
        T.fault(11, 3, a + "BEGIN END A. MODULE B; IMPORT A; TYPE u = A.o OBJECT OVERRIDES m := A.n; END; BEGIN END B.");
        T.fault(11, 3, a + "BEGIN END A. MODULE B; IMPORT A; TYPE u = A.o OBJECT OVERRIDES k := A.n; END; BEGIN END B.");
    }

    /** "it has a first FORMAL, which is without VAR, of a type that the LEVEL's own type is below, as that unit sees it, the others and the RESULT are alike those of the METHOD, its SET has no EXCEPTION that the METHOD's has not". */
    private static void fits() {
        String[] fit = {"(s : t; y : INTEGER) : t", "(s : ROOT; y : INTEGER) : t", "(s : u; y : INTEGER) : t", "(s : t; y : in) : t RAISES { e }", "(s : t; y : INTEGER) : t RAISES { e, e }"};
        String[] not = {"() : t", "(y : INTEGER) : t", "(VAR s : t; y : INTEGER) : t", "(s : v; y : INTEGER) : t", "(s : w; y : INTEGER) : t", "(s : REF t; y : INTEGER) : t", "(s : t) : t",
            "(s : t; x, y : INTEGER) : t", "(s : t; VAR y : INTEGER) : t", "(s : t; y : [0 .. 1]) : t", "(s : t; y : INTEGER)", "(s : t; y : INTEGER) : u", "(s : t; y : INTEGER) : ROOT",
            "(s : t; y : INTEGER) : t RAISES { g }", "(s : t; y : INTEGER) : t RAISES { e, g }"};
        String head = "TYPE in = INTEGER; TYPE t = OBJECT METHODS m (x : INTEGER) : t RAISES { e }; END; TYPE v = u OBJECT END; TYPE w = t OBJECT z : INTEGER; END; PROCEDURE q ";
        for (String s : fit) {
            good(head + s + " = BEGIN END q;\nTYPE u = t OBJECT OVERRIDES m := q; END;");
            good(head + s + " = BEGIN END q;\nTYPE u = t OBJECT METHODS n (x : INTEGER) : t RAISES { e } := q; END;");
        }
        for (String s : not) {
            fault(11, 3, head + s + " = BEGIN END q;\nTYPE u = t OBJECT OVERRIDES m := q; END;");
            fault(11, 3, head + s + " = BEGIN END q;\nTYPE u = t OBJECT METHODS n (x : INTEGER) : t RAISES { e } := q; END;");
        }
        // of a REVEAL = the OPAQUE type is the LEVEL's own one, as that unit sees it
        good("TYPE b = OBJECT END; TYPE o <: ROOT; REVEAL o = b OBJECT METHODS m () := q; END; PROCEDURE q (s : o) = BEGIN END q;");
        good("TYPE b = OBJECT END; TYPE o <: ROOT; REVEAL o = b OBJECT METHODS m () := q; END; PROCEDURE q (s : b) = BEGIN END q;");
        fault(11, 2, "TYPE b = OBJECT END; TYPE o <: ROOT; REVEAL o = OBJECT METHODS m () := q; END; PROCEDURE q (s : b) = BEGIN END q;");
        String a = "INTERFACE A; TYPE b = OBJECT END; TYPE o <: ROOT; TYPE l <: o; PROCEDURE q (s : b); END A. MODULE A; REVEAL o = b OBJECT END; PROCEDURE q (s : b) = BEGIN END q; BEGIN END A.\n";
        T.fault(11, 2, a + "MODULE B; IMPORT A; REVEAL A.l = A.o OBJECT METHODS m () := A.q; END; BEGIN END B.");
        T.reading(a + "MODULE B; IMPORT A; REVEAL A.o <: A.b; REVEAL A.l = A.o OBJECT METHODS m () := A.q; END; BEGIN END B.", 0);
    }

    /** "a PROCEDURE told in an INTERFACE that its MODULE does not make (or there is none; at the INTERFACE's), or makes with a SIGNATURE that is not alike (at the MODULE's)". */
    private static void made() {
        String a = "INTERFACE A; EXCEPTION e;\nPROCEDURE p (x : INTEGER; VAR y : BOOLEAN) : INTEGER RAISES { e };\nEND A.\n";
        T.fault(11, 2, a);
        T.fault(11, 2, a + "MODULE B; PROCEDURE p (x : INTEGER; VAR y : BOOLEAN) : INTEGER = BEGIN END p; BEGIN END B.");
        T.fault(11, 2, a + "MODULE A; BEGIN END A.");
        T.reading(a + "MODULE A; PROCEDURE p (u : INTEGER; VAR v : BOOLEAN) : INTEGER RAISES { e } = BEGIN END p; BEGIN END A.", 0);
        String[] not = {"(x : INTEGER; VAR y : BOOLEAN) : INTEGER", "(x : INTEGER; VAR y : BOOLEAN) RAISES { e }", "(x : INTEGER; y : BOOLEAN) : INTEGER RAISES { e }", "(x : INTEGER) : INTEGER RAISES { e }",
            "(x : [0 .. 1]; VAR y : BOOLEAN) : INTEGER RAISES { e }", "(x : INTEGER; VAR y : BOOLEAN) : [0 .. 1] RAISES { e }"};
        for (String s : not) {
            T.fault(11, 5, a + "MODULE A;\nPROCEDURE\np " + s + " = BEGIN END p; BEGIN END A.");
        }
        T.reading("MODULE A; PROCEDURE p () = BEGIN END p; BEGIN END A.", 0);
    }

    /** What type(i, 3) tells of CELLS: "of an ARRAY or RECORD those of its parts, of all else 1". */
    private static void cellsTold() {
        LevelUnits x = T.reading("INTERFACE A; TYPE a = RECORD END; TYPE b = RECORD x : INTEGER; END; TYPE c = RECORD x, y : b; z : [1 .. 2]; END; TYPE d = ARRAY [- 1 .. 1] OF c; TYPE e = ARRAY [5 .. 5] OF a;"
                + " TYPE f = REF d; TYPE g = OBJECT x : d; END; TYPE h = PROCEDURE (x : d); TYPE i = ROOT; TYPE j = THREAD; TYPE k = RECORD x : d; y : g; END; TYPE l = ARRAY [0 .. 999] OF RECORD x, y : BOOLEAN; END;"
                + " TYPE m = ARRAY [0 .. 0] OF INTEGER; END A.", 0);
        int[] cells = {0, 1, 3, 9, 0, 1, 1, 1, 1, 1, 10, 2000, 1};
        for (int i = 0; i < cells.length; i++) {
            T.due("type(" + i + ", 3)", x.type(i, 3), cells[i]);
        }
    }
}
