/** Promise 4: tokens, the grammar, FAULTS 1 to 4. */
final class TextTest {
    private static final Tell T = new Tell();

    private static String module(String told, String done) {
        return "MODULE M;\n" + told + "\nBEGIN\n" + done + "\nEND M.";
    }

    private static final String VARS = "VAR x : INTEGER; VAR b : BOOLEAN; VAR a : ARRAY [0 .. 3] OF INTEGER; EXCEPTION e;"
            + " PROCEDURE p (k : INTEGER) : INTEGER = BEGIN RETURN k; END p;";

    /** The STATEMENTS stand in line 4, then in line 5 and so on. */
    private static void done(int code, int line, String statements) {
        T.reading(module(VARS, statements), code == 0 ? 0 : code + 16 * line);
    }

    private static void told(int code, String told) {
        T.reading(module(told, ""), code == 0 ? 0 : code + 16 * 2);
    }

    private static String times(int n, String s) {
        return s.repeat(n);
    }

    public static void main(String[] args) {
        tokens();
        notes();
        units();
        expressions();
        statements();
        types();
        nesting();
        endNames();
        T.end("TextTest");
    }

    private static void tokens() {
        told(0, "VAR abcdefghijklmnop, A_9, a_, z : INTEGER;");
        told(1, "VAR abcdefghijklmnopq : INTEGER;");
        told(1, "VAR _a : INTEGER;");
        told(2, "VAR BEGIN : INTEGER;");
        told(0, "VAR begin, BEGINS, Begin : INTEGER;");
        told(1, "VAR a : [0 .. 2147483648];");
        told(0, "VAR a : [0..2147483647];");
        told(1, "VAR a : [0 .. 00000000001];");
        told(0, "VAR a : [0 .. 0000000001];");
        told(1, "VAR a : [0 .. 1a];");
        told(1, "VAR a : [0 .. 1_];");
        told(0, "VAR a : [- 2147483647 .. -1];");
        told(2, "VAR a : [- - 1 .. 1];");
        told(2, "VAR a : [0 ... 1];");
        told(1, "VAR a : INTEGER; ! VAR b : INTEGER;");
        told(1, "VAR a ~ INTEGER;");
        told(2, "VAR a := INTEGER;");
        told(1, "VAR a\0 : INTEGER;");
        told(1, "VAR a\u00e9 : INTEGER;");
        told(0, "VAR\ta\r:\tINTEGER\r;");
        // the first token that is wrong tells the FAULT
        told(2, "VAR : ! INTEGER;");
        told(1, "VAR ! : INTEGER;");
        T.due("tokens", T.reading("MODULE M;VAR a:[0..9];BEGIN a:=a+1;END M.", 0).count(0), 22);
        T.due("tokens", T.reading("INTERFACE A;TYPE t<:ROOT;REVEAL t<:ROOT;REVEAL t=OBJECT END;END A.", 0).count(0), 22);
        T.due("tokens", T.reading("MODULE M;BEGIN x:=1;END M.", 6 + 16).count(0), 0);
    }

    private static void notes() {
        told(0, "(* VAR ! *) VAR (*(* *) x *)(**) a (***) : INTEGER;");
        T.fault(1, 3, "MODULE M;\n\n (* one (* two\n *) \n");
        T.fault(1, 1, "(*)");
        T.fault(2, 1, "*) MODULE");
        T.fault(1, 2, "MODULE M;\n(*(*\n*)");
        T.fault(2, 4, "MODULE (*\n\n*) M;\n");
        T.reading("(*\n*)INTERFACE A; END A.(* \u00ff\0 *)", 0);
        // a note parts tokens
        T.fault(2, 1, "INTERFACE A(**)B; END AB.");
    }

    private static void units() {
        T.fault(2, 1, "");
        T.fault(2, 4, "\n\n\n");
        T.fault(2, 1, "A");
        T.fault(2, 1, "INTERFACE ;");
        T.fault(2, 1, "INTERFACE A; END A");
        T.fault(2, 2, "INTERFACE A; END A.\n;");
        T.fault(2, 1, "MODULE A; END A.");
        T.fault(2, 1, "INTERFACE A; BEGIN END A.");
        T.fault(2, 1, "INTERFACE A; IMPORT ; END A.");
        T.fault(2, 1, "INTERFACE A; IMPORT B; IMPORT C; END A.");
        T.fault(2, 1, "INTERFACE A; PROCEDURE p () = BEGIN END p; END A.");
        T.fault(2, 1, "MODULE A; PROCEDURE p (); BEGIN END A.");
        StringBuilder b = new StringBuilder();
        for (int i = 1; i <= 12; i++) {
            b.append("INTERFACE A").append(i).append("; END A").append(i).append(".\n");
        }
        T.due("12 units", T.reading(b.toString(), 0).count(1), 12);
        T.fault(2, 13, b + "INTERFACE B; END B.");
        T.fault(1, 13, b + "?");
    }

    private static void expressions() {
        done(0, 0, "x := 1 + - 2 * - x DIV (3 MOD - (4)) - p;\n".replace("- p", "- a[1]"));
        done(2, 4, "x := - - 1;");
        done(2, 4, "x := 1 + + 1;");
        done(2, 4, "b := 1 = 2 = 3;");
        done(2, 4, "b := 1 < 2 # TRUE;");
        done(0, 0, "b := (1 = 2) = (3 <= 4) AND b OR NOT NOT b;");
        done(0, 0, "b := NOT 1 = 2 AND NOT x > 3;");
        done(2, 4, "b := TRUE = NOT b;");
        done(2, 4, "x := 1 + NOT b;");
        done(2, 4, "b := - NOT b;");
        done(12, 4, "b := NOT - x;");
        done(2, 4, "b := b NOT b;");
        done(2, 4, "x := ;");
        done(2, 4, "x := 1 2;");
        done(2, 4, "x := (1;");
        done(2, 4, "x := a[1;");
        done(2, 4, "x := a[];");
        done(2, 4, "x := a[1, 2];");
        done(2, 4, "x := NEW(1);");
        done(2, 4, "b := ISTYPE(NIL);");
        done(0, 0, "b := ISTYPE(NIL, ROOT);");
        // a CALL stands alone behind :=
        done(0, 0, "x := p(1);");
        done(2, 4, "x := p(1) + 1;");
        done(2, 4, "x := 1 + p(1);");
        done(2, 4, "x := (p)(1);");
        done(2, 4, "x := - p(1);");
        done(2, 4, "PUT p(1);");
        done(2, 4, "x := p(1,);");
        done(2, 4, "x := p(,1);");
    }

    private static void statements() {
        done(2, 5, "x := 1");
        done(2, 4, ";");
        done(2, 4, "x;");
        done(2, 4, "x = 1;");
        done(2, 4, "1 := x;");
        done(2, 4, "IF b THEN ELSE ELSIF b THEN END;");
        done(0, 0, "IF b THEN ELSIF b THEN ELSIF b THEN x := 1; ELSE END;");
        done(2, 4, "IF b THEN x := 1 END;");
        done(2, 4, "FOR a[1] := 1 TO 2 DO END;");
        done(2, 4, "FOR i := 1 DO END;");
        done(2, 4, "TRY x := 1; END;");
        done(0, 0, "TRY EXCEPT END; TRY EXCEPT ELSE END; TRY EXCEPT | e(v) => END; TRY FINALLY END;");
        done(2, 4, "TRY EXCEPT | e => END;");
        done(2, 4, "TRY FINALLY ELSE END;");
        done(2, 4, "RAISE e;");
        done(2, 4, "RAISE e();");
        done(2, 4, "WAIT x;");
        done(2, 4, "x := FORK 1;");
        done(2, 4, "x := FORK p;");
        done(2, 4, "FORK p(1);");
        done(0, 0, "TYPECASE NIL OF END; TYPECASE NIL OF | ROOT (z) => ELSE END;");
        done(2, 4, "TYPECASE NIL OF | ROOT => END;");
        done(2, 4, "EXIT 1;");
        done(2, 7, "x :=\n\n1\n1;");
        done(2, 4, "x.1 := 2;");
        done(2, 4, "x^^[1].y.2;");
    }

    private static void types() {
        told(0, "TYPE t = RECORD END; TYPE u = RECORD a, b : t; c : t; END; TYPE v = OBJECT END;");
        told(2, "TYPE t = RECORD a : INTEGER END;");
        told(2, "TYPE t = ARRAY [0 .. 1] INTEGER;");
        told(2, "TYPE t = REF;");
        told(2, "TYPE t = ROOT ROOT;");
        told(2, "TYPE t = INTEGER OBJECT END;");
        told(0, "TYPE t = REF OBJECT END; TYPE u = REF ROOT OBJECT END;");
        told(2, "TYPE t = OBJECT OVERRIDES m := p; METHODS END;");
        told(2, "TYPE t = OBJECT METHODS m; END;");
        told(2, "TYPE t = OBJECT OVERRIDES m (); END;");
        told(0, "TYPE t = OBJECT METHODS OVERRIDES END;");
        told(2, "TYPE t = PROCEDURE;");
        told(0, "TYPE t = PROCEDURE () RAISES { };");
        told(2, "TYPE t = PROCEDURE () RAISES { } : INTEGER;");
        told(2, "TYPE t = PROCEDURE () RAISES { , };");
        told(2, "TYPE t = PROCEDURE (a : INTEGER;);");
        told(2, "TYPE t = PROCEDURE (a);");
        told(0, "TYPE t = PROCEDURE (VAR a, b : INTEGER; c : t; VAR d : t) : t;");
        told(0, "TYPE t = PROCEDURE (a, b, c, d, e, f, g, h : INTEGER);");
        told(2, "TYPE t = PROCEDURE (a, b, c, d, e, f, g, h, i : INTEGER);");
        told(2, "TYPE t = PROCEDURE (a, b, c, d : INTEGER; e, f, g, h : INTEGER; VAR i : INTEGER);");
        told(2, "TYPE t <: ;");
        told(2, "REVEAL t = INTEGER;");
        told(2, "REVEAL t = t;");
        told(2, "REVEAL t;");
        told(2, "VAR a : INTEGER, b : INTEGER;");
        told(2, "EXCEPTION a, b;");
        told(2, "PROCEDURE p () = VAR a : INTEGER; EXCEPTION e; BEGIN END p;");
    }

    private static void nesting() {
        done(0, 0, "x := " + times(20, "(") + "1" + times(20, ")") + ";");
        done(3, 4, "x := " + times(21, "(") + "1" + times(21, ")") + ";");
        done(0, 0, "x := " + times(20, "a[") + "1" + times(20, "]") + ";");
        done(3, 4, "x := p(" + times(20, "a[") + "1" + times(20, "]") + ");");
        done(0, 0, "x := p(" + times(19, "(") + "1" + times(19, ")") + ");");
        done(0, 0, "b := " + times(20, "NOT ") + "b;");
        done(3, 4, "b := " + times(21, "NOT ") + "b;");
        done(0, 0, "b := " + times(20, "NOT b AND ") + "b;");
        done(0, 0, "b := " + times(15, "NOT b AND NOT (") + "b" + times(15, ")") + ";");
        done(0, 0, "b := " + times(19, "NOT (") + "NOT b" + times(19, ")") + ";");
        done(3, 4, "b := " + times(19, "NOT (") + "NOT NOT b" + times(19, ")") + ";");
        done(0, 0, times(19, "LOOP ") + "x := 1;" + times(19, "END; "));
        done(0, 0, times(20, "LOOP ") + times(20, "END; "));
        done(3, 4, times(20, "LOOP ") + "x := 1;" + times(20, "END; "));
        done(2, 4, times(20, "LOOP ") + "1 := x;" + times(20, "END; "));
        told(0, "TYPE t = " + times(19, "REF ") + "INTEGER;");
        told(3, "TYPE t = " + times(20, "REF ") + "INTEGER;");
        told(3, "TYPE t = " + times(20, "REF ") + "t;");
        told(2, "TYPE t = " + times(20, "REF ") + ";");
        // a SUPER and the LEVEL of a REVEAL are no TYPEs by themselves
        told(0, "TYPE s = OBJECT END; TYPE t = " + times(19, "REF ") + "s OBJECT END;");
        told(0, "TYPE s <: ROOT; REVEAL s = ROOT OBJECT f : " + times(19, "REF ") + "s; END;");
        told(3, "TYPE s <: ROOT; REVEAL s = ROOT OBJECT f : " + times(20, "REF ") + "s; END;");
        told(3, "TYPE s = ROOT OBJECT f : " + times(19, "REF ") + "s; END;");
    }

    private static void endNames() {
        T.fault(4, 1, "INTERFACE A; END B.");
        T.fault(4, 2, "MODULE A; BEGIN END\nB.");
        T.fault(2, 1, "MODULE A; BEGIN END END.");
        told(4, "PROCEDURE p () = BEGIN END q;");
        told(2, "PROCEDURE p () = BEGIN END;");
        told(1, "PROCEDURE p () = BEGIN END abcdefghijklmnopq;");
    }
}
