/** "2. RULES", the third and the fourth round: FAULTS 12 to 15, each kind of value against each place. */
final class CheckEdgesTest {
    private static final Tell T = new Tell();

    /** Values, which are PLACEs up to "ab"; NIL is the last one. */
    private static final String[] VALUES = {"i", "r", "b", "ro", "w", "w2", "w3", "fi", "fb", "pr", "pe", "pn", "mu", "co", "th", "v", "u", "a", "ab", "p", "n", "7", "TRUE", "NIL"};
    private static final int PLACES = 19;

    private static final String TOLD = "MODULE M; EXCEPTION e; EXCEPTION g; TYPE o = OBJECT f : INTEGER; METHODS m (k : INTEGER) : INTEGER; l (); END; TYPE o2 = o OBJECT END; TYPE o3 = ROOT OBJECT g : INTEGER; END;"
            + " TYPE rec = RECORD f : INTEGER; END; TYPE rec2 = RECORD g : INTEGER; END; TYPE ar = ARRAY [1 .. 3] OF INTEGER; TYPE ar2 = ARRAY [1 .. 3] OF BOOLEAN;"
            + " VAR i, j : INTEGER; VAR r : [0 .. 9]; VAR b : BOOLEAN; VAR ro : ROOT; VAR w : o; VAR w2 : o2; VAR w3 : o3; VAR fi : REF INTEGER; VAR fb : REF BOOLEAN;"
            + " VAR pr : PROCEDURE (k : INTEGER) : INTEGER; VAR pe : PROCEDURE (k : INTEGER) : INTEGER RAISES { e }; VAR pn : PROCEDURE (); VAR mu : MUTEX; VAR co : CONDITION; VAR th : THREAD;"
            + " VAR v : rec; VAR u : rec2; VAR a : ar; VAR ab : ar2;"
            + " PROCEDURE p (k : INTEGER) : INTEGER = BEGIN RETURN k; END p; PROCEDURE n () = BEGIN END n; PROCEDURE q (k : INTEGER; VAR l : INTEGER) = BEGIN END q;\n";

    public static void main(String[] args) {
        logic();
        arithmetic();
        equal();
        statements();
        places();
        members();
        methods();
        newOf();
        related();
        assigned();
        varParameters();
        threads();
        returns();
        results();
        faultsHaveNoType();
        howMany();
        loops();
        neverPlaces();
        handled();
        leaves();
        twice();
        T.end("CheckEdgesTest");
    }

    /** STATEMENTS in line 3, of the unit. */
    private static void done(int code, String statements) {
        T.reading(TOLD + "BEGIN\n" + statements + "\nEND M.", code == 0 ? 0 : code + 48);
    }

    /** Many STATEMENTS that are right. */
    private static void good(String... all) {
        for (String s : all) {
            done(0, s);
        }
    }

    private static void bad(int code, String... all) {
        for (String s : all) {
            done(code, s);
        }
    }

    private static boolean isNumber(String x) {
        return x.equals("i") || x.equals("r") || x.equals("7");
    }

    private static boolean isBoolean(String x) {
        return x.equals("b") || x.equals("TRUE");
    }

    private static boolean isObject(String x) {
        return x.equals("ro") || x.startsWith("w");
    }

    private static boolean isReference(String x) {
        return isObject(x) || x.startsWith("f") || x.equals("NIL") || x.equals("p") || x.equals("n") || x.startsWith("p") || x.equals("mu") || x.equals("co") || x.equals("th");
    }

    /** Its type is below the other one's. */
    private static boolean isBelow(String x, String y) {
        String one = x.equals("p") ? "pr" : x.equals("n") ? "pn" : x;
        String two = y.equals("p") ? "pr" : y.equals("n") ? "pn" : y;
        return one.equals(two) || one.equals("r") && two.equals("i") || isObject(one) && two.equals("ro") || one.equals("w2") && two.equals("w") || one.equals("pr") && two.equals("pe");
    }

    private static boolean isAssignable(String value, String place) {
        if (isNumber(value) || isNumber(place)) {
            return isNumber(value) && isNumber(place);
        }
        if (isBoolean(value) || isBoolean(place)) {
            return isBoolean(value) && isBoolean(place);
        }
        if (value.equals("NIL")) {
            return isReference(place);
        }
        return isBelow(value, place) || isObject(value) && isObject(place) && isBelow(place, value);
    }

    private static void logic() {
        for (String x : VALUES) {
            int code = isBoolean(x) ? 0 : 12;
            for (String s : new String[] {"b := # OR b;", "b := b OR #;", "b := # AND b;", "b := b AND #;", "b := NOT #;", "IF # THEN END;", "IF b THEN ELSIF # THEN END;", "WHILE # DO END;"}) {
                done(code, s.replace("#", x));
            }
        }
    }

    private static void arithmetic() {
        String[] all = {"b := # < 1;", "b := 1 < #;", "b := # <= 1;", "b := 1 <= #;", "b := # > 1;", "b := 1 > #;", "b := # >= 1;", "b := 1 >= #;", "i := # + 1;", "i := 1 + #;", "i := # - 1;", "i := 1 - #;",
            "i := # * 1;", "i := 1 * #;", "i := # DIV 1;", "i := 1 DIV #;", "i := # MOD 1;", "i := 1 MOD #;", "i := - #;"};
        String[] also = {"FOR k := # TO 1 DO END;", "FOR k := 1 TO # DO END;", "PUT #;", "RAISE e(#);", "i := a[#];", "a[#] := 1;"};
        for (String x : VALUES) {
            int code = isNumber(x) ? 0 : 12;
            for (String s : all) {
                done(code, s.replace("#", x));
            }
            for (String s : also) {
                done(code, s.replace("#", x));
            }
        }
        // RANGEs are INTEGERs in an E
        bad(12, "b := r + r;", "r := r < r;");
        good("r := r + r; i := - r; r := - r; r := 100; r := a[r];");
    }

    /** "= #: two INTEGERs, two BOOLEANs, or two REFERENCES (PROCEDURE types, too) of which one is below the other one (NIL: with any)". */
    private static void equal() {
        for (String x : VALUES) {
            for (String y : VALUES) {
                boolean fits = isNumber(x) && isNumber(y) || isBoolean(x) && isBoolean(y)
                        || isReference(x) && isReference(y) && (x.equals("NIL") || y.equals("NIL") || isBelow(x, y) || isBelow(y, x));
                done(fits ? 0 : 12, "b := " + x + " = " + y + ";");
                done(fits ? 0 : 12, "b := " + x + " # " + y + ";");
            }
        }
    }

    private static void statements() {
        for (String x : VALUES) {
            boolean nil = x.equals("NIL");
            done(x.equals("mu") || nil ? 0 : 12, "LOCK " + x + " DO END;");
            done(x.equals("mu") || nil ? 0 : 12, "WAIT " + x + ", co;");
            done(x.equals("co") || nil ? 0 : 12, "WAIT mu, " + x + ";");
            done(x.equals("co") || nil ? 0 : 12, "SIGNAL " + x + ";");
            done(x.equals("co") || nil ? 0 : 12, "BROADCAST " + x + ";");
            done(x.equals("th") || nil ? 0 : 12, "JOIN " + x + ";");
            done(isObject(x) || nil ? 0 : 12, "TYPECASE " + x + " OF END;");
            done(isObject(x) || nil ? 0 : 12, "TYPECASE " + x + " OF | ROOT (z) => END;");
        }
    }

    /** "^ behind a REF; .. [ E ] behind an ARRAY; ( behind a PROCEDURE, a METHOD or a PLACE of a PROCEDURE type". */
    private static void places() {
        for (String x : VALUES) {
            if (!x.equals("7") && !x.equals("TRUE") && !x.equals("NIL")) {
                done(x.startsWith("f") ? 0 : 12, "b := " + x + "^ = " + x + "^;");
                done(x.startsWith("a") ? 0 : 12, "b := " + x + "[1] = " + x + "[2];");
                boolean called = x.equals("p") || x.equals("pr") || x.equals("pe");
                done(called ? 0 : 12, "i := " + x + "(1);");
                done(called ? 0 : x.equals("n") || x.equals("pn") ? 13 : 12, x + "(1);");
                done(x.equals("n") || x.equals("pn") ? 0 : called ? 13 : 12, x + "();");
                done(x.equals("v") || x.equals("w") || x.equals("w2") ? 0 : 12, "i := " + x + ".f;");
                done(x.equals("v") || x.equals("w") || x.equals("w2") ? 0 : 12, x + ".f := 1;");
            }
        }
        good("i := a[100];", "i := a[- 1];", "i := a[a[a[1]]];");
        bad(12, "i := i^;", "fi^^ := 1;", "a[1][1] := 1;", "p.f := 1;", "p^ := 1;", "p[1] := 1;", "p.f(1);");
    }

    /** ". NAME behind a RECORD, or an OBJECT type one of whose LEVELs, as the unit sees it from the type itself on upwards, has such a FIELD (or METHOD, in a CALL; the nearest one)". */
    private static void members() {
        good("w2.f := w.f; i := w2.m(1); w2.l();", "u.g := w3.g;");
        bad(12, "w.g := 1;", "w3.f := 1;", "ro.f := 1;", "v.g := 1;", "w.k(1);", "ro.m(1);", "v.m(1);", "w3.l();");
        bad(14, "i := w.m;", "pr := w.m;", "w.m := 1;", "w.l.x := 1;", "w.l.l();", "w.l[1] := 2;", "w.l^();", "PUT w2.m;", "b := w.l = NIL;", "p(w.m);", "q(1, w.m);");
        // the nearest one hides those above
        String near = "MODULE M; TYPE a = OBJECT f : INTEGER; METHODS m (); n (); END; TYPE b = a OBJECT f : BOOLEAN; m : INTEGER; END; TYPE c = b OBJECT METHODS f (); m (k : INTEGER); END; VAR x : a; VAR y : b; VAR z : c; BEGIN\n";
        String[] fine = {"x.f := 1; x.m(); x.n();", "y.f := TRUE; y.m := 1; y.n();", "z.f(); z.m(1); z.n();"};
        for (String s : fine) {
            T.reading(near + s + " END M.", 0);
        }
        T.fault(12, 2, near + "y.f := 1; END M.");
        T.fault(12, 2, near + "y.m(); END M.");
        T.fault(13, 2, near + "z.m(); END M.");
        T.fault(14, 2, near + "z.f := TRUE; END M.");
        T.fault(14, 2, near + "z.m := 1; END M.");
        // as the unit sees it
        String a = "INTERFACE A; TYPE pub = OBJECT x : INTEGER; END; TYPE o <: pub; VAR v : o; PROCEDURE k (s : o); END A.\n"
                + "MODULE A; REVEAL o = pub OBJECT y : INTEGER; METHODS m () := k; END; PROCEDURE k (s : o) = BEGIN s.x := s.y; s.m(); END k; BEGIN v.y := 1; v.m(); END A.\n";
        T.reading(a + "MODULE B; IMPORT A; BEGIN A.v.x := 1; END B.", 0);
        T.fault(12, 3, a + "MODULE B; IMPORT A; BEGIN A.v.y := 1; END B.");
        T.fault(12, 3, a + "MODULE B; IMPORT A; BEGIN A.v.m(); END B.");
        T.reading(a + "INTERFACE C; IMPORT A; TYPE p = A.o OBJECT y : BOOLEAN; END; VAR w : p; END C. MODULE B; IMPORT C, A; BEGIN C.w.x := 1; C.w.y := TRUE; A.v := C.w; END B.", 0);
    }

    private static void methods() {
        good("i := w.m(1); w.m(r); r := w2.m(i); w.l(); th := FORK w.l(); th := FORK w.m(2);");
        bad(12, "b := w.m(1);", "i := w.l();", "w.m(b);", "w.m(NIL);", "i := w.m(v);");
        bad(13, "w.m();", "w.m(1, 2);", "w.l(1);", "w.m(1, w);");
    }

    /** "NEW: a REF, OBJECT type (not an OPAQUE one whose REVEAL = is not seen), MUTEX or CONDITION." */
    private static void newOf() {
        good("ro := NEW(ROOT); ro := NEW(o); w := NEW(o2); ro := NEW(o OBJECT END); mu := NEW(MUTEX); co := NEW(CONDITION); fi := NEW(REF INTEGER); b := NIL = NEW(REF ar);");
        bad(12, "i := NEW(INTEGER);", "b := NEW(BOOLEAN);", "r := NEW([0 .. 9]);", "th := NEW(THREAD);", "pn := NEW(PROCEDURE ());", "v := NEW(rec);", "a := NEW(ar);", "b := NIL = NEW(THREAD);", "mu := NEW(CONDITION);",
                "fi := NEW(REF BOOLEAN);", "w := NEW(o3);");
        good("w2 := NEW(o); fi := NEW(REF INTEGER);");
        String a = "INTERFACE A; TYPE o <: ROOT; VAR v : o; END A.\n";
        T.reading(a + "MODULE A; REVEAL o = OBJECT END; BEGIN v := NEW(o); END A.", 0);
        T.reading(a + "INTERFACE B; IMPORT A; REVEAL A.o = OBJECT END; END B. MODULE B; IMPORT A; BEGIN A.v := NEW(A.o); END B.", 0);
        T.fault(12, 3, a + "MODULE A; REVEAL o = OBJECT END; BEGIN END A.\nMODULE B; IMPORT A; BEGIN A.v := NEW(A.o); END B.");
        T.fault(12, 3, a + "MODULE A; REVEAL o = OBJECT END; BEGIN END A.\nMODULE B; IMPORT A; REVEAL A.o <: ROOT; BEGIN A.v := NEW(A.o); END B.");
        T.reading(a + "MODULE A; REVEAL o = OBJECT END; BEGIN END A.\nMODULE B; IMPORT A; BEGIN A.v := NEW(A.o OBJECT END); END B.", 0);
    }

    /** "ISTYPE, NARROW, TYPECASE: E and TYPEs are OBJECT types of which one is below the other one (NIL: with any)." */
    private static void related() {
        String[] types = {"ROOT", "o", "o2", "o3", "INTEGER", "REF INTEGER", "MUTEX", "rec", "ar", "PROCEDURE ()"};
        String[] as = {"ro", "w", "w2", "w3"};
        for (String x : VALUES) {
            for (int t = 0; t < types.length; t++) {
                boolean fits = t < as.length && (x.equals("NIL") || isObject(x) && (isBelow(x, as[t]) || isBelow(as[t], x)));
                done(fits ? 0 : 12, "b := ISTYPE(" + x + ", " + types[t] + ");");
                done(fits ? 0 : 12, "b := NARROW(" + x + ", " + types[t] + ") = NIL;");
                done(fits ? 0 : 12, "TYPECASE " + x + " OF | " + types[t] + " (z) => END;");
            }
        }
        done(12, "TYPECASE w OF | o2 (z) => | o3 (z) => END;");
        // the NAME of a BRANCH is of its TYPE, NARROW is of the TYPE
        good("TYPECASE ro OF | o (z) => z.f := 1; | o3 (z) => z.g := 1; END;", "w2 := NARROW(ro, o2); w3 := NARROW(ro, o3);");
        bad(12, "TYPECASE ro OF | o (z) => i := z; END;", "w3 := NARROW(ro, o);", "TYPECASE w OF | o (z) => z := w3; END;");
    }

    /** "the value's type is ASSIGNABLE to the place's". */
    private static void assigned() {
        for (String x : VALUES) {
            for (int y = 0; y < PLACES; y++) {
                String place = VALUES[y];
                int code = isAssignable(x, place) ? 0 : 12;
                done(code, place + " := " + x + ";");
                String type = typeOf(place);
                if (!place.equals("pr") && !place.equals("pe")) {
                    T.reading(TOLD + "PROCEDURE t (x : " + type + ") = BEGIN END t; BEGIN\nt(" + x + "); END M.", code == 0 ? 0 : code + 48);
                }
                boolean parts = place.equals("v") || place.equals("u") || place.startsWith("a");
                if (!parts) {
                    T.reading(TOLD + "PROCEDURE t () : " + type + " = BEGIN\nRETURN " + x + "; END t; BEGIN END M.", code == 0 ? 0 : code + 48);
                }
                if (!parts && y < PLACES) {
                    String from = VALUES[y];
                    for (int z = 0; z < PLACES; z++) {
                        if (x.equals("i")) {
                            T.reading(TOLD + "PROCEDURE t () : " + type + " = BEGIN END t; BEGIN\n" + VALUES[z] + " := t(); END M.", isAssignable(from, VALUES[z]) ? 0 : 60);
                        }
                    }
                }
            }
        }
    }

    private static String typeOf(String place) {
        switch (place) {
            case "i": return "INTEGER";
            case "r": return "[0 .. 9]";
            case "b": return "BOOLEAN";
            case "ro": return "ROOT";
            case "w": return "o";
            case "w2": return "o2";
            case "w3": return "o3";
            case "fi": return "REF INTEGER";
            case "fb": return "REF BOOLEAN";
            case "pr": return "PROCEDURE (k : INTEGER) : INTEGER";
            case "pe": return "PROCEDURE (k : INTEGER) : INTEGER RAISES { e }";
            case "pn": return "PROCEDURE ()";
            case "mu": return "MUTEX";
            case "co": return "CONDITION";
            case "th": return "THREAD";
            case "v": return "RECORD f : INTEGER; END";
            case "u": return "rec2";
            case "a": return "ARRAY [1 .. 3] OF INTEGER";
            default: return "ar2";
        }
    }

    /** "A parameter with VAR: a PLACE of an alike type." */
    private static void varParameters() {
        for (String x : VALUES) {
            for (int y = 0; y < PLACES; y++) {
                if (!VALUES[y].startsWith("p")) {
                    int code = x.equals(VALUES[y]) ? 0 : x.equals("p") || x.equals("n") ? 14 : 12;
                    T.reading(TOLD + "PROCEDURE t (VAR x : " + typeOf(VALUES[y]) + ") = BEGIN END t; BEGIN\nt(" + x + "); END M.", code == 0 ? 0 : code + 48);
                }
            }
        }
        good("q(1, i); q(1, v.f); q(1, a[r]); q(1, fi^); q(1, w.f);", "TRY EXCEPT | e(k) => q(1, k); END;");
        bad(12, "q(1, r);", "q(1, 1);", "q(1, i + 1);", "q(1, (i));", "q(1, - i);", "q(1, NEW(REF INTEGER));", "q(1, w.g);");
        bad(14, "FOR k := 1 TO 2 DO q(1, k); END;", "q(1, p);", "q(1, n);", "q(1, w.l);");
        T.reading(TOLD + "PROCEDURE t (VAR x : INTEGER; y : INTEGER) = BEGIN t(x, y); t(y, x); END t; BEGIN END M.", 0);
    }

    /** "FORK's PLACE: a THREAD"; "FORK with a SIGNATURE that has a VAR". */
    private static void threads() {
        for (int y = 0; y < PLACES; y++) {
            done(VALUES[y].equals("th") ? 0 : 12, VALUES[y] + " := FORK n();");
            done(VALUES[y].equals("th") ? 0 : 12, VALUES[y] + " := FORK p(1);");
        }
        bad(13, "th := FORK n(1);", "th := FORK p();");
        bad(12, "th := FORK p(b);", "th := FORK i();", "th := p(1);", "i := FORK p(1);");
        bad(14, "th := FORK q(1, i);", "n := FORK n();", "w.l := FORK n();", "FOR k := 1 TO 2 DO k := FORK n(); END;");
        good("th := FORK pn(); th := FORK w.l(); th := FORK w2.m(1); th := FORK pe(1);");
        T.fault(14, 2, "MODULE M; VAR th : THREAD; VAR x : PROCEDURE (VAR k : INTEGER); VAR i : INTEGER; BEGIN\nth := FORK x(i); END M.");
    }

    /** "RETURN E in a PROCEDURE with a RESULT, RETURN in one without". */
    private static void returns() {
        String[] with = {"RETURN 1;", "RETURN r;", "LOOP RETURN 1; END;", "TRY RETURN 1; FINALLY RETURN 2; END;", ""};
        String[] without = {"RETURN;", "IF b THEN RETURN; END;", ""};
        for (String s : with) {
            T.reading(TOLD + "PROCEDURE t () : INTEGER = BEGIN\n" + s + " END t; BEGIN END M.", 0);
            T.reading(TOLD + "PROCEDURE t () = BEGIN\n" + s + " END t; BEGIN END M.", s.isEmpty() ? 0 : 12 + 48);
            done(s.isEmpty() ? 0 : 14, s);
        }
        for (String s : without) {
            T.reading(TOLD + "PROCEDURE t () = BEGIN\n" + s + " END t; BEGIN END M.", 0);
            T.reading(TOLD + "PROCEDURE t () : INTEGER = BEGIN\n" + s + " END t; BEGIN END M.", s.isEmpty() ? 0 : 12 + 48);
            done(s.isEmpty() ? 0 : 14, s);
        }
    }

    /** ":= CALL of one with it (a CALL alone: any)". */
    private static void results() {
        good("p(1); n(); pr(2); pn(); w.m(3); w.l(); i := p(1); r := w.m(1);");
        bad(12, "i := n();", "i := pn();", "i := w.l();", "b := p(1);", "th := n();");
    }

    /** "what has a fault has no type, and fits; a CALL always has its RESULT". */
    private static void faultsHaveNoType() {
        bad(14, "b := w.m;", "b := w.m = w3;", "b := w.l = 1;", "IF w.m THEN END;", "LOCK w.l DO END;", "i := - w.m;", "a[w.l] := 1;", "p(w.l);", "w.m := TRUE;", "p := TRUE;", "n := n;", "w.l := w.m;");
        bad(14, "FOR k := 1 TO 2 DO k := TRUE; END;", "FOR k := 1 TO 2 DO k := w.l; END;", "p := p(1);", "TYPECASE w.l OF | ROOT (x) => END;", "b := ISTYPE(w.l, o3);");
        bad(12, "b := w.m + b;", "w.m := b + 1;", "p(w.l + b);", "b := p(w.l);", "TYPECASE w.l OF | INTEGER (x) => END;", "b := ISTYPE(w.l, INTEGER);");
        // an operator has its type, whatever its operands have
        bad(12, "b := w.m + 1;", "b := - w.m;", "i := w.m < 1;", "i := NOT w.m;", "i := w.m AND b;", "i := w.m = w3;");
        bad(14, "i := w.m + 1;", "b := w.m < 1;", "b := NOT w.m;", "b := w.m OR b;");
        // the RESULT is there, too, when a parameter is wrong, or there are too few
        bad(12, "b := p();", "b := p(1, 2);", "b := p(w.m);");
        bad(13, "i := p();", "i := p(1, 2);", "i := p(1, b + 1);", "p(w.l, 1);");
        bad(14, "i := p(w.l);");
    }

    /** "13 Not as many parameters as there should be (types are looked at as far as both go)." */
    private static void howMany() {
        StringBuilder names = new StringBuilder();
        for (int n = 0; n <= 8; n++) {
            String told = TOLD + "PROCEDURE t (" + (n == 0 ? "" : names.substring(2) + " : INTEGER") + ") = BEGIN END t; VAR tp : PROCEDURE (" + (n == 0 ? "" : names.substring(2) + " : INTEGER") + ");"
                    + " TYPE ot = OBJECT METHODS m (" + (n == 0 ? "" : names.substring(2) + " : INTEGER") + "); END; VAR x : ot; BEGIN\n";
            StringBuilder given = new StringBuilder();
            for (int k = 0; k <= 10; k++) {
                String with = k == 0 ? "" : given.substring(2);
                for (String c : new String[] {"t(", "tp(", "x.m(", "th := FORK t(", "th := FORK x.m("}) {
                    T.reading(told + c + with + "); END M.", k == n ? 0 : 13 + 48);
                    if (k > 0) {
                        T.reading(told + c + "TRUE" + with.substring(1) + "); END M.", n == 0 ? 13 + 48 : 12 + 48);
                        T.reading(told + c + with.substring(0, with.length() - 1) + "TRUE); END M.", k <= n ? 12 + 48 : 13 + 48);
                    }
                }
                given.append(", 1");
            }
            names.append(", a").append(n);
        }
    }

    /** "an EXIT that is in no WHILE, LOOP, FOR of its PROCEDURE (or of the unit's STATEMENTS)". */
    private static void loops() {
        String[] round = {"#", "IF b THEN # END;", "TRY # FINALLY END;", "TRY FINALLY # END;", "TRY # EXCEPT END;", "TRY EXCEPT | e(x) => # END;", "TRY EXCEPT ELSE # END;", "LOCK mu DO # END;", "TYPECASE w OF | o (z) => # END;",
            "TYPECASE w OF ELSE # END;", "IF b THEN ELSE # END;"};
        for (String s : round) {
            String in = s.replace("#", "EXIT;");
            done(14, in);
            done(0, "LOOP " + in + " END;");
            done(0, "WHILE b DO " + in + " END;");
            done(0, "FOR k := 1 TO 2 DO " + in + " END;");
            done(14, "LOOP END; " + in);
            T.reading(TOLD + "PROCEDURE t () = BEGIN\n" + in + " END t; BEGIN LOOP t(); END; END M.", 14 + 48);
            T.reading(TOLD + "PROCEDURE t () = BEGIN LOOP\n" + in + " END; END t; BEGIN t(); END M.", 0);
        }
    }

    /** ":= , FORK's PLACE, or a parameter with VAR, that is the NAME of a FOR, a PROCEDURE or METHOD". */
    private static void neverPlaces() {
        for (String s : new String[] {"# := #;", "# := 1;", "# := p(1);", "# := FORK n();", "q(1, #);"}) {
            done(14, "FOR k := 1 TO 2 DO " + s.replace("#", "k") + " END;");
            done(14, s.replace("#", "p"));
            done(14, s.replace("#", "w.m"));
        }
        bad(14, "FOR k := 1 TO 2 DO TRY EXCEPT | e(x) => k := 1; END; END;");
        good("FOR k := 1 TO 2 DO TRY EXCEPT | e(k) => k := 1; END; TYPECASE w OF | o (k) => k := NIL; END; END;");
        // what more stands behind is told of as of a value
        bad(12, "FOR k := 1 TO 2 DO k.f := 1; END;", "FOR k := 1 TO 2 DO k^ := 1; END;", "p.f := 1;", "FOR k := 1 TO 2 DO k(1); END;");
        good("FOR k := 1 TO 2 DO a[k] := k; i := k; p(k); END; pr := p; b := p = pr;");
    }

    private static final String RAISING = "MODULE M; EXCEPTION e; EXCEPTION g; VAR th : THREAD; VAR b : BOOLEAN; VAR pe : PROCEDURE () RAISES { e }; TYPE o = OBJECT METHODS m () RAISES { e }; END; VAR w : o;"
            + " PROCEDURE qe () RAISES { e } = BEGIN END qe; PROCEDURE qq () RAISES { g, e } = BEGIN END qq; PROCEDURE t () ";

    /** In a PROCEDURE with the SET: the one STATEMENT in line 2 within others that hold it at #. */
    private static void raising(int code, String set, String round, String statement) {
        T.reading(RAISING + set + " = BEGIN " + round.replace("#", "\n" + statement + "\n") + " END t; BEGIN END M.", code == 0 ? 0 : code + 32);
    }

    /** "those of STATEMENTS, less those of a TRY that its HANDLERS name (all, if it has ELSE), with those of its HANDLERS, ELSE, FINALLY". */
    private static void handled() {
        String[] lets = {"#", "IF b THEN # END;", "LOOP # END;", "TRY # FINALLY END;", "TRY FINALLY # END;", "TRY # EXCEPT END;", "TRY # EXCEPT | g(x) => END;", "TRY EXCEPT | e(x) => # END;", "TRY EXCEPT | g(x) => # | e(x) => END;",
            "TRY EXCEPT | e(x) => ELSE # END;", "TRY TRY EXCEPT | e(x) => # END; FINALLY END;", "LOCK NIL DO # END;", "TRY # EXCEPT | g(x) => TRY EXCEPT | e(x) => END; END;"};
        String[] stops = {"TRY # EXCEPT | e(x) => END;", "TRY # EXCEPT ELSE END;", "TRY # EXCEPT | g(x) => ELSE END;", "TRY # EXCEPT | g(x) => | e(x) => END;", "TRY TRY # FINALLY END; EXCEPT | e(x) => END;",
            "TRY TRY FINALLY # END; EXCEPT | e(x) => END;", "TRY TRY EXCEPT | e(x) => # END; EXCEPT | e(x) => END;", "TRY TRY EXCEPT ELSE # END; EXCEPT ELSE END;", "TRY TRY # EXCEPT | g(x) => END; EXCEPT | e(x) => END;",
            "TRY LOOP IF b THEN # END; END; EXCEPT | e(x) => END;"};
        String[] raise = {"RAISE e(1);", "qe();", "pe();", "w.m();"};
        for (String s : raise) {
            for (String round : lets) {
                raising(15, "", round, s);
                raising(15, "RAISES { }", round, s);
                raising(15, "RAISES { g }", round, s);
                raising(0, "RAISES { e }", round, s);
                raising(0, "RAISES { g, e }", round, s);
            }
            for (String round : stops) {
                raising(0, "", round, s);
                raising(0, "RAISES { g }", round, s);
            }
        }
    }

    /** "at the RAISE, or the CALL (whose SET has it; not at FORK) .. (STATEMENTS of units: any may)". */
    private static void leaves() {
        raising(15, "RAISES { e }", "#", "qq();");
        raising(15, "RAISES { g }", "#", "qq();");
        raising(0, "RAISES { e, g }", "#", "qq();");
        raising(0, "RAISES { e }", "TRY # EXCEPT | g(x) => END;", "qq();");
        raising(15, "", "TRY # EXCEPT | g(x) => END;", "qq();");
        raising(0, "", "#", "th := FORK qq();");
        raising(0, "", "#", "th := FORK w.m();");
        T.reading(RAISING + "= BEGIN END t; BEGIN RAISE e(1); RAISE g(1); qq(); pe(); w.m(); th := FORK qe(); END M.", 0);
        // a PROCEDURE's own SET, not what it may raise, is what its CALL has
        T.reading("MODULE M; EXCEPTION e; PROCEDURE p () RAISES { e } = BEGIN END p; PROCEDURE q () = BEGIN TRY p(); EXCEPT | e(x) => END; END q; PROCEDURE s () = BEGIN q(); END s; BEGIN END M.", 0);
        T.fault(15, 2, "INTERFACE A; EXCEPTION e; PROCEDURE p () RAISES { e }; END A. MODULE A; PROCEDURE p () RAISES { e } = BEGIN END p; BEGIN END A. MODULE B; IMPORT A; EXCEPTION e; PROCEDURE q () RAISES { e } = BEGIN\nA.p(); END q; BEGIN END B.");
        T.reading("INTERFACE A; EXCEPTION e; PROCEDURE p () RAISES { e }; END A. MODULE A; PROCEDURE p () RAISES { e } = BEGIN END p; BEGIN END A. MODULE B; IMPORT A; EXCEPTION e; PROCEDURE q () RAISES { A.e } = BEGIN\nA.p(); END q; BEGIN END B.", 0);
    }

    /** "an EXCEPTION that HANDLERS of a TRY name twice". */
    private static void twice() {
        String m = "INTERFACE A; EXCEPTION e; END A. MODULE M; IMPORT A; EXCEPTION e; EXCEPTION g; BEGIN\nTRY EXCEPT | e(x) => | g(x) =>";
        T.reading(m + " | A.e(x) => END; END M.", 0);
        T.fault(15, 3, m + "\n| e(x) => END; END M.");
        T.fault(15, 4, m + "\n\n| g(x) => END; END M.");
        T.fault(15, 3, m + " | A.e(x) =>\n| A.e(x) => END; END M.");
        T.reading(m + " TRY EXCEPT | e(x) => | g(y) => END; END; TRY EXCEPT | e(x) => END; END M.", 0);
        T.fault(15, 3, m + " TRY EXCEPT | A.e(x) => |\nA.e(x) => END; END; END M.");
    }
}
