import java.util.HashSet;
import java.util.Set;

/** "1. TEXT": each boundary that it names, by the last one that is still within it and the first one beyond it. */
final class TextEdgesTest {
    private static final Tell T = new Tell();
    private static final String SIGNS = "(){}[],;:.=#<>+-*^|";
    private static final String[] WORDS = ("AND ARRAY BEGIN BOOLEAN BROADCAST CONDITION DIV DO ELSE ELSIF END EXCEPT EXCEPTION EXIT FALSE FINALLY FOR FORK IF IMPORT INTEGER"
            + " INTERFACE ISTYPE JOIN LOCK LOOP METHODS MOD MODULE MUTEX NARROW NEW NIL NOT OBJECT OF OR OVERRIDES PROCEDURE PUT RAISE RAISES RECORD REF RETURN REVEAL ROOT SIGNAL"
            + " THEN THREAD TO TRUE TRY TYPE TYPECASE VAR WAIT WHILE").split(" ");

    private static final String TOLD = "MODULE M; VAR x : INTEGER; VAR b : BOOLEAN; VAR o : ROOT; VAR h : THREAD; VAR m : MUTEX; VAR a : ARRAY [0 .. 3] OF INTEGER; EXCEPTION e;"
            + " VAR f : REF [0 .. 1]; VAR g : PROCEDURE (k : INTEGER); PROCEDURE p (k : INTEGER) : INTEGER = BEGIN RETURN k; END p; BEGIN\n";

    public static void main(String[] args) {
        tape();
        lines();
        bytesBetween();
        notes();
        names();
        words();
        numbers();
        signs();
        units();
        imports();
        formals();
        operators();
        callsBehindBecomes();
        bracketsWithin();
        notsWithin();
        typesWithin();
        statementsWithin();
        endNames();
        leastOfOneToken();
        firstToken();
        T.end("TextEdgesTest");
    }

    private static String times(int n, String s) {
        return s.repeat(n);
    }

    private static void good(String text) {
        T.reading(text, 0);
    }

    /** The STATEMENTS stand in line 2; code 0: there is no FAULT. */
    private static void done(int code, String statements) {
        T.reading(TOLD + statements + "\nEND M.", code == 0 ? 0 : code + 16 * 2);
    }

    /** DECLARATIONS in line 2. */
    private static void told(int code, String told) {
        T.reading("MODULE M; EXCEPTION e;\n" + told + "\nBEGIN END M.", code == 0 ? 0 : code + 16 * 2);
    }

    /** "A TAPE has at most 6,000 bytes." */
    private static void tape() {
        String head = "INTERFACE A;";
        String tail = "END A.";
        String full = head + times(6000 - head.length() - tail.length(), " ") + tail;
        T.due("bytes", full.length(), 6000);
        T.due("tokens", T.reading(full, 0).count(0), 6);
        T.fault(1, 1, full.substring(0, 5999) + "!");
        T.fault(2, 1, full.substring(0, 5999));
        T.fault(1, 6000, times(5999, "\n") + "?");
        T.fault(2, 6001, times(6000, "\n"));
        // the longest rows of one sort of token
        T.fault(2, 1, times(6000, "("));
        T.fault(2, 1, "INTERFACE " + times(2995, "A "));
        // all that is told by a tape full of names
        StringBuilder b = new StringBuilder("INTERFACE A; VAR a");
        for (int i = 0; b.length() < 5960; i++) {
            b.append(",a").append(i);
        }
        T.due("units", T.reading(b + " : RECORD END; END A.", 0).count(1), 1);
    }

    /** "LINES are parted by bytes 10 and counted from 1 on"; "of the end: one more than there are bytes 10". */
    private static void lines() {
        T.fault(1, 1, "!");
        T.fault(1, 1, "\r\r\t !");
        T.fault(1, 2, "\n!");
        T.fault(1, 2, "\r\n\r!");
        T.fault(1, 3, "\n\n!\n");
        T.fault(2, 1, "");
        T.fault(2, 1, "\r");
        T.fault(2, 2, "\n");
        T.fault(2, 1, "INTERFACE A; END A");
        T.fault(2, 2, "INTERFACE A; END A\n");
        T.fault(2, 4, "INTERFACE A;\n(*\n*)\n");
        T.fault(2, 4, "INTERFACE A;\nEND A.\n\n;\n\n");
    }

    private static boolean isBlank(int c) {
        return c == 9 || c == 10 || c == 13 || c == 32;
    }

    private static boolean isLetter(int c) {
        return c >= 'A' && c <= 'Z' || c >= 'a' && c <= 'z';
    }

    private static boolean isDigit(int c) {
        return c >= '0' && c <= '9';
    }

    /** The FAULT of a text that a byte stands in where it can't: 2 if it is a sign, 1 if no token begins so. */
    private static int strange(int c) {
        return SIGNS.indexOf(c) >= 0 ? 2 : 1;
    }

    private static void byteIs(int code, int c, String text) {
        T.reading(text, code == 0 ? 0 : code + 16 + (c == 10 ? 16 : 0));
    }

    /** "Bytes 9, 10, 13 and 32 part tokens"; what a NAME begins with, goes on with; what stands right behind a NUMBER. */
    private static void bytesBetween() {
        for (int c = 0; c < 256; c++) {
            String s = String.valueOf((char) c);
            boolean goesOn = isLetter(c) || isDigit(c) || c == '_';
            byteIs(isBlank(c) ? 0 : isLetter(c) ? 2 : strange(c), c, "INTERFACE A;" + s + "END A.");
            byteIs(isBlank(c) || isLetter(c) ? 0 : strange(c), c, "INTERFACE " + s + "A; END " + s + "A.");
            byteIs(isBlank(c) || goesOn ? 0 : strange(c), c, "INTERFACE A" + s + "; END A" + s + ".");
            byteIs(isBlank(c) || isDigit(c) ? 0 : strange(c), c, "INTERFACE A; TYPE t = [0 .. 1" + s + "]; END A.");
        }
    }

    /** "NOTES: from (* to the *) that belongs to it (they may be in one another)"; one that does not end. */
    private static void notes() {
        String rest = "INTERFACE A; END A.";
        good("(**)" + rest);
        good("(***)" + rest);
        good("(*)*)" + rest);
        good("(*(**)*)" + rest);
        good("(*(*)*)*)" + rest);
        good("(* ( * ) *)" + rest);
        good("(* *)(* *)" + rest + "(**)");
        good(times(900, "(*") + times(900, "*)") + rest);
        T.fault(1, 1, times(900, "(*") + times(899, "*)") + rest);
        T.fault(2, 1, times(900, "(*") + times(901, "*)") + rest);
        T.fault(1, 1, "(*(*)*)" + rest);
        T.fault(1, 1, "(*");
        T.fault(2, 1, "(");
        T.fault(1, 1, "(*)");
        T.fault(1, 1, "(* *");
        T.fault(1, 2, rest + "\n(*\n(*\n*)\n");
        T.fault(1, 3, rest + "\n(* (*\n*) *) (*\n*");
        // the token ahead of it is the first one that is wrong
        T.fault(2, 2, "INTERFACE A;\nEND ;\n(*");
        T.fault(1, 3, "INTERFACE A;\nEND\n(*\n;");
        // what parts tokens
        told(2, "VAR a(**)b : INTEGER;");
        told(2, "VAR a :(**)= INTEGER;");
        told(2, "TYPE a <(**): ROOT;");
        told(0, "VAR a(**):(**)INTEGER(**);");
        told(2, "VAR a : [0 .(**). 1];");
        told(0, "VAR a : [0(**)..(**)1];");
    }

    /** "NAMES: a letter, then letters, digits, _ ; 16 at most". */
    private static void names() {
        told(0, "VAR a, Z, z9, a_, A__9 : INTEGER;");
        told(0, "VAR abcdefghijklmnop, ABCDEFGHIJKLMNO_, a23456789012345_ : INTEGER;");
        told(1, "VAR abcdefghijklmnopq : INTEGER;");
        told(1, "VAR a234567890123456_ : INTEGER;");
        told(1, "VAR ________________ : INTEGER;");
        told(1, "VAR " + times(300, "a") + " : INTEGER;");
        // all 16 count
        told(0, "VAR abcdefghijklmnop, abcdefghijklmnoq : INTEGER;");
        told(5, "VAR abcdefghijklmnop, abcdefghijklmnop : INTEGER;");
        told(0, "VAR a, A : INTEGER;");
        T.fault(1, 2, "INTERFACE A;\nEND A2345678901234567.");
    }

    private static void words() {
        Set<String> all = new HashSet<>(Set.of(WORDS));
        T.due("WORDS", all.size(), 58);
        for (String w : WORDS) {
            T.fault(2, 1, "INTERFACE " + w + "; END " + w + ".");
            good("INTERFACE " + w + "x; END " + w + "x.");
            good("INTERFACE " + w + "_; END " + w + "_.");
            good("INTERFACE " + w.toLowerCase() + "; END " + w.toLowerCase() + ".");
            String less = w.substring(0, w.length() - 1);
            if (!all.contains(less)) {
                good("INTERFACE " + less + "; END " + less + ".");
            }
        }
    }

    /** "NUMBERS: 1 to 10 digits, 2147483647 at most, no letter, digit or _ right behind." */
    private static void numbers() {
        told(0, "TYPE t = [0..2147483647];");
        told(1, "TYPE t = [0..2147483648];");
        told(1, "TYPE t = [0..9999999999];");
        told(1, "TYPE t = [0..4294967296];");
        told(0, "TYPE t = [0..0000000000];");
        told(1, "TYPE t = [0..00000000000];");
        told(0, "TYPE t = [0..0000000009];");
        told(1, "TYPE t = [0..00000000009];");
        told(0, "TYPE t = [-2147483647..-2147483647];");
        told(1, "TYPE t = [-2147483648..0];");
        told(1, "TYPE t = [0..1e];");
        told(1, "TYPE t = [0..1Z];");
        told(1, "TYPE t = [0..1_];");
        told(1, "TYPE t = [0..1TO];");
        done(0, "x := 0000000007;");
        LevelUnits x = T.running("MODULE M; BEGIN PUT 2147483647; PUT 0000000010; PUT 0; END M.", 1);
        x.run(3);
        T.output(x, 2147483647, 10, 0);
    }

    /** Each as long as can be. */
    private static void signs() {
        T.due("tokens", T.reading("INTERFACE A;TYPE t=[0..1];TYPE o<:ROOT;REVEAL o=OBJECT END;END A.", 0).count(0), 6 + 9 + 5 + 6);
        done(0, "b := 1<=2; b := 1>=-2; b := 1<-2; b := 1>-2; b := 1=-2; x:=-1;");
        done(0, "TRY EXCEPT|e(v)=>END;");
        done(2, "b := 1 < = 2;");
        done(2, "b := 1 > = 2;");
        done(2, "b := 1 => 2;");
        done(2, "b := 1 =< 2;");
        done(2, "b := 1 <: 2;");
        done(2, "b : = TRUE;");
        done(2, "TRY EXCEPT | e(v) = > END;");
        told(2, "TYPE t = [0 . . 1];");
        told(2, "TYPE t = [0...1];");
        told(2, "TYPE t = [0....1];");
        told(2, "TYPE o < : ROOT; REVEAL o = OBJECT END;");
        told(2, "TYPE o <:: ROOT; REVEAL o = OBJECT END;");
    }

    /** "A text is 1 to 12 UNITS, then the end." */
    private static void units() {
        T.fault(2, 1, " ");
        T.due("1 unit", T.reading("INTERFACE A; END A.", 0).count(1), 1);
        StringBuilder b = new StringBuilder();
        for (int i = 0; i < 12; i++) {
            b.append(i % 2 == 0 ? "INTERFACE A" : "MODULE A").append(i).append(i % 2 == 0 ? "; END A" : "; BEGIN END A").append(i).append(".\n");
        }
        T.due("12 units", T.reading(b.toString(), 0).count(1), 12);
        T.fault(2, 13, b + "INTERFACE");
        T.fault(2, 13, b + "MODULE B; BEGIN END B.");
        T.fault(2, 14, b + "\n;");
        T.fault(1, 13, b + "'");
        T.fault(2, 1, "INTERFACE A; END A. END");
    }

    /** "NAME,, is one or more"; "IMPORTS?", "TOLD*": none, too. */
    private static void imports() {
        String a = "INTERFACE A; END A. INTERFACE B; END B.\n";
        good(a + "INTERFACE C; IMPORT A; END C.");
        good(a + "INTERFACE C; IMPORT A, B; END C.");
        T.fault(2, 2, a + "INTERFACE C; IMPORT; END C.");
        T.fault(2, 2, a + "INTERFACE C; IMPORT A,; END C.");
        T.fault(2, 2, a + "INTERFACE C; IMPORT A B; END C.");
        T.fault(2, 2, a + "INTERFACE C; TYPE t = INTEGER; IMPORT A; END C.");
        told(2, "VAR : INTEGER;");
        told(2, "VAR a, : INTEGER;");
        told(0, "TYPE t = PROCEDURE () RAISES { e, e };");
        told(2, "TYPE t = PROCEDURE () RAISES { e, };");
        told(2, "TYPE t = PROCEDURE () RAISES e;");
        told(2, "TYPE t = PROCEDURE (VAR a : INTEGER; );");
        told(2, "TYPE t = PROCEDURE (VAR VAR a : INTEGER);");
        told(2, "TYPE t = RECORD a, : INTEGER; END;");
    }

    /** "8 names at most in a SIGNATURE: a ninth can't stand there". */
    private static void formals() {
        String eight = "a, b, c, d, e, f, g, h : INTEGER";
        String parts = "a : INTEGER; VAR b, c : INTEGER; d, e, f, g : INTEGER; VAR h : INTEGER";
        for (String s : new String[] {eight, parts}) {
            told(0, "TYPE t = PROCEDURE (" + s + ");");
            told(2, "TYPE t = PROCEDURE (" + s + "; i : INTEGER);");
            told(2, "TYPE t = PROCEDURE (i : INTEGER; " + s + ");");
            told(0, "TYPE t = OBJECT METHODS m (" + s + "); END;");
            told(2, "TYPE t = OBJECT METHODS m (" + s + "; i : INTEGER); END;");
            told(0, "PROCEDURE p (" + s + ") = VAR i : INTEGER; BEGIN END p;");
            told(2, "PROCEDURE p (" + s + "; VAR i : INTEGER) = BEGIN END p;");
            good("INTERFACE A; TYPE t = PROCEDURE (a : PROCEDURE (" + s + "); b : PROCEDURE (" + s + ")); END A.");
        }
        // it is the ninth name that can't stand there, not what is ahead of it
        T.fault(2, 3, "INTERFACE A; TYPE t = PROCEDURE (a, b, c, d, e, f, g, h,\n\ni : INTEGER); END A.");
        T.fault(2, 4, "INTERFACE A; TYPE t = PROCEDURE (" + eight + ";\n\nVAR\ni, j : INTEGER); END A.");
        T.fault(2, 1, "INTERFACE A; TYPE t = PROCEDURE (a, b, c, d, e, f, g, h, i\n!");
        T.fault(1, 2, "INTERFACE A; TYPE t = PROCEDURE (a, b, c, d, e, f, g, h,\n!");
    }

    /** "= # < <= > >= (one alone)"; "then - (one, ahead of an OPERAND)"; "NOT (ahead of its operand)". */
    private static void operators() {
        for (String r : new String[] {"=", "#", "<", "<=", ">", ">="}) {
            done(0, "b := 1 " + r + " 2;");
            done(2, "b := 1 " + r + " 2 " + r + " 3;");
            done(0, "b := (1 " + r + " 2) = (2 " + r + " 3);");
            done(0, "b := 1 " + r + " 2 AND 2 " + r + " 3 OR NOT 1 " + r + " 2;");
            done(2, "b := 1 " + r + " NOT 2;");
            done(2, "b := 1 " + r + ";");
        }
        done(0, "x := -1 + -1 * -1 DIV -1 MOD -1 - -1;");
        done(2, "x := --1;");
        done(0, "x := -(-1);");
        done(2, "x := 1 - - -1;");
        done(0, "b := NOT NOT b;");
        done(0, "b := NOT -x = 1;");
        done(2, "b := -NOT b;");
        done(2, "x := 1 * NOT b;");
        done(2, "x := + 1;");
        done(2, "x := 1 +;");
        done(2, "b := AND b;");
        done(2, "b := b OR OR b;");
        done(2, "x := 1 DIV MOD 2;");
    }

    /** "behind := it is one as soon as ( stands behind a PLACE there". */
    private static void callsBehindBecomes() {
        done(0, "x := p(1);");
        done(0, "x := p\n(1);");
        done(2, "x := p(1) + 1;");
        done(2, "x := p(1).f;");
        done(2, "x := p(1)(2);");
        done(2, "x := p + p(1);");
        done(2, "x := (p(1));");
        done(2, "x := 1(2);");
        done(2, "x := -p(1);");
        done(2, "b := NOT p(1);");
        done(2, "PUT p(1);");
        done(2, "x := a[p(1)];");
        done(2, "x := p(p(1));");
        done(0, "h := FORK p(1);");
        done(2, "h := FORK p;");
        done(2, "h := FORK p(1) + 1;");
        done(2, "h := (FORK p(1));");
        done(2, "FORK p(1);");
        done(2, "p;");
        done(2, "p(1) := 2;");
    }

    /** "3 it would begin the 21st of a sort within one another: ( and [ (all that are open)". */
    private static void bracketsWithin() {
        String[][] each = {{"x := ", "(", "1", ")"}, {"x := ", "a[", "1", "]"}, {"x := ", "(a[", "1", "])"}, {"a[", "a[", "1", "]"}};
        int[] twenty = {20, 20, 10, 19};
        String[] ends = {";", ";", ";", "] := 1;"};
        for (int i = 0; i < each.length; i++) {
            done(0, each[i][0] + times(twenty[i], each[i][1]) + each[i][2] + times(twenty[i], each[i][3]) + ends[i]);
            done(3, each[i][0] + times(twenty[i] + 1, each[i][1]) + each[i][2] + times(twenty[i] + 1, each[i][3]) + ends[i]);
        }
        String[] lead = {"x := p(", "p(", "RAISE e(", "h := FORK p("};
        for (String s : lead) {
            done(0, s + times(19, "(") + "1" + times(19, ")") + ");");
            done(3, s + times(20, "(") + "1" + times(20, ")") + ");");
        }
        String[][] last = {{"o := ", "NEW(ROOT)"}, {"b := ", "ISTYPE(NIL, ROOT)"}, {"o := ", "NARROW(NIL, ROOT)"}, {"x := ", "a[1]"}};
        for (String[] s : last) {
            done(0, s[0] + times(19, "(") + s[1] + times(19, ")") + ";");
            done(3, s[0] + times(20, "(") + s[1] + times(20, ")") + ";");
        }
        done(0, "b := ISTYPE(" + times(19, "(") + "NIL" + times(19, ")") + ", ROOT);");
        done(3, "b := ISTYPE(" + times(20, "(") + "NIL" + times(20, ")") + ", ROOT);");
        done(0, "o := NARROW(" + times(19, "(") + "NIL" + times(19, ")") + ", ROOT);");
        done(3, "o := NARROW(" + times(20, "(") + "NIL" + times(20, ")") + ", ROOT);");
        // those of the TYPE behind NEW, too
        done(0, "f := " + times(18, "(") + "NEW(REF [0 .. 1])" + times(18, ")") + ";");
        done(3, "f := " + times(19, "(") + "NEW(REF [0 .. 1])" + times(19, ")") + ";");
        done(0, "b := NIL = " + times(18, "(") + "NEW(REF PROCEDURE ())" + times(18, ")") + ";");
        done(3, "b := NIL = " + times(19, "(") + "NEW(REF PROCEDURE ())" + times(19, ")") + ";");
        done(0, "b := NIL = " + times(18, "(") + "NEW(OBJECT METHODS m () RAISES { e }; END)" + times(18, ")") + ";");
        done(3, "b := NIL = " + times(19, "(") + "NEW(OBJECT METHODS m () RAISES { e }; END)" + times(19, ")") + ";");
        done(0, "b := NIL = " + times(18, "(") + "NEW(REF ARRAY [0 .. 1] OF INTEGER)" + times(18, ")") + ";");
        done(3, "b := NIL = " + times(19, "(") + "NEW(REF ARRAY [0 .. 1] OF INTEGER)" + times(19, ")") + ";");
        // SIGNATUREs: that of the PROCEDURE itself, then 19 within it
        told(0, "PROCEDURE p (a : " + times(19, "PROCEDURE (a : ") + "INTEGER" + times(19, ")") + ") = BEGIN END p;");
        told(3, "PROCEDURE p (a : " + times(20, "PROCEDURE (a : ") + "INTEGER" + times(20, ")") + ") = BEGIN END p;");
        told(3, "PROCEDURE p (a : " + times(19, "PROCEDURE (a : ") + "[0 .. 1]" + times(19, ")") + ") = BEGIN END p;");
        // where one must stand, it must
        for (String s : new String[] {"b := ISTYPE NIL, ROOT);", "o := NARROW NIL, ROOT);", "o := NEW ROOT);", "RAISE e 1);", "h := FORK p 1);", "TRY EXCEPT | e v) => END;", "TYPECASE o OF | ROOT z) => END;", "p 1);"}) {
            done(2, s);
        }
        told(2, "TYPE t = 0 .. 1];");
        told(2, "TYPE t = ARRAY 0 .. 1] OF INTEGER;");
        told(2, "TYPE t = PROCEDURE );");
        told(2, "TYPE t = PROCEDURE a : INTEGER);");
        told(2, "TYPE t = OBJECT METHODS m a : INTEGER); END;");
        told(2, "PROCEDURE p a : INTEGER) = BEGIN END p;");
        // it is those that are open that count
        done(0, "x := (1)" + times(30, " + (a[1])") + ";" + times(30, " p((2));"));
        done(0, "TRY" + times(25, " TRY EXCEPT | e(v) => x := (1); END;") + " EXCEPT END;" + times(25, " TYPECASE o OF | ROOT (z) => END;"));
        T.fault(3, 22, "MODULE M; VAR x : INTEGER; BEGIN x :=\n" + times(21, "(\n") + "1" + times(21, ")") + "; END M.");
    }

    private static void notsWithin() {
        done(0, "b := " + times(20, "NOT ") + "b;");
        done(3, "b := " + times(21, "NOT ") + "b;");
        done(0, "b := " + times(19, "NOT (") + "NOT b" + times(19, ")") + ";");
        done(3, "b := " + times(19, "NOT (") + "NOT NOT b" + times(19, ")") + ";");
        done(0, "b := NOT (" + times(19, "NOT ") + "b);");
        done(3, "b := NOT (" + times(20, "NOT ") + "b);");
        done(0, "b := " + times(20, "NOT ") + "b AND " + times(20, "NOT ") + "b OR " + times(20, "NOT ") + "b;");
        done(3, "b := b AND " + times(21, "NOT ") + "b;");
        // those ahead of a PLACE go on within its [ ]
        done(12, "b := " + times(10, "NOT ") + "a[" + times(10, "NOT ") + "b];");
        done(3, "b := " + times(10, "NOT ") + "a[" + times(11, "NOT ") + "b];");
        done(12, "b := NOT a[1] OR a[" + times(20, "NOT ") + "b];");
        done(0, "b := " + times(19, "NOT ") + "ISTYPE(NIL, ROOT);" + times(5, " b := " + times(20, "NOT ") + "b;"));
        T.fault(3, 22, "MODULE M; VAR b : BOOLEAN; BEGIN b :=\n" + times(21, "NOT\n") + "b; END M.");
    }

    /** "TYPE (each that the words above tell, QNAMEs, too; a SUPER is none by itself)". */
    private static void typesWithin() {
        String[][] each = {{"REF ", ""}, {"ARRAY [0 .. 0] OF ", ""}, {"RECORD a : ", "; END"}, {"PROCEDURE (a : ", ")"}, {"PROCEDURE () : ", ""}, {"OBJECT a : ", "; END"},
            {"OBJECT METHODS m (a : ", "); END"}, {"OBJECT METHODS m () : ", "; END"}, {"s OBJECT a : ", "; END"}};
        String s = "TYPE s = OBJECT END; ";
        for (String[] one : each) {
            String within = s + "TYPE t = " + times(19, one[0]);
            String ends = times(19, one[1]) + ";";
            for (String last : new String[] {"INTEGER", "s", "ROOT", "MUTEX", "OBJECT END", "s OBJECT END", "RECORD END"}) {
                boolean parts = one[0].contains(") : ") && last.equals("RECORD END");
                told(parts ? 9 : 0, within + last + ends);
                told(3, s + "TYPE t = " + times(20, one[0]) + last + times(20, one[1]) + ";");
            }
        }
        told(0, "TYPE s <: ROOT; REVEAL s = OBJECT f : " + times(19, "REF ") + "s; END;");
        told(3, "TYPE s <: ROOT; REVEAL s = OBJECT f : " + times(20, "REF ") + "s; END;");
        told(10, "TYPE s <: " + times(19, "REF ") + "ROOT;");
        told(3, "TYPE s <: " + times(20, "REF ") + "ROOT;");
        told(0, "VAR v : " + times(19, "REF ") + "MUTEX;");
        told(3, "VAR v : " + times(20, "REF ") + "MUTEX;");
        told(0, "PROCEDURE p (v : " + times(19, "REF ") + "MUTEX) = VAR w : " + times(19, "REF ") + "MUTEX; BEGIN END p;");
        told(3, "PROCEDURE p (v : " + times(20, "REF ") + "MUTEX) = BEGIN END p;");
        told(3, "PROCEDURE p () = VAR w : " + times(20, "REF ") + "MUTEX; BEGIN END p;");
        done(0, "b := NIL = NEW(" + times(19, "REF ") + "INTEGER);");
        done(3, "b := NIL = NEW(" + times(20, "REF ") + "INTEGER);");
        done(12, "TYPECASE NIL OF | " + times(19, "REF ") + "INTEGER (z) => END;");
        done(3, "TYPECASE NIL OF | " + times(20, "REF ") + "INTEGER (z) => END;");
        // those beside one another
        StringBuilder b = new StringBuilder("TYPE t = RECORD ");
        for (int i = 0; i < 30; i++) {
            b.append("a").append(i).append(" : REF REF t; ");
        }
        told(0, b + "END;");
        T.fault(3, 22, "INTERFACE A; TYPE t =\n" + times(20, "REF\n") + "t; END A.");
    }

    private static void statementsWithin() {
        String[][] each = {{"IF b THEN ", "END; "}, {"IF b THEN ELSIF b THEN ", "END; "}, {"IF b THEN ELSE ", "END; "}, {"WHILE b DO ", "END; "}, {"LOOP ", "END; "},
            {"FOR i := 1 TO 2 DO ", "END; "}, {"TRY ", "EXCEPT END; "}, {"TRY EXCEPT | e(v) => ", "END; "}, {"TRY EXCEPT ELSE ", "END; "}, {"TRY ", "FINALLY END; "},
            {"TRY FINALLY ", "END; "}, {"LOCK m DO ", "END; "}, {"TYPECASE o OF | ROOT (z) => ", "END; "}, {"TYPECASE o OF ELSE ", "END; "}};
        String[] last = {"x := 1; ", "p(1); ", "PUT 1; ", "EXIT; ", "RAISE e(1); ", "IF b THEN END; ", "TRY FINALLY END; ", "JOIN h; "};
        for (String[] one : each) {
            for (String s : last) {
                int code = s.equals("EXIT; ") && !one[0].startsWith("WHILE") && !one[0].startsWith("LOOP") && !one[0].startsWith("FOR") ? 14 : 0;
                done(code, times(19, one[0]) + s + times(19, one[1]));
                done(3, times(20, one[0]) + s + times(20, one[1]));
            }
            done(0, times(20, one[0]) + times(20, one[1]) + times(20, one[0]) + times(20, one[1]));
        }
        String p = "PROCEDURE q () = BEGIN " + times(20, "LOOP ") + times(20, "END; ") + "END q; ";
        told(0, p + p.replace('q', 'r') + "PROCEDURE s () = BEGIN " + times(20, "LOOP ") + times(20, "END; ") + "END s;");
        T.fault(3, 22, "MODULE M; BEGIN\n" + times(20, "LOOP\n") + "EXIT; " + times(20, "END; ") + "END M.");
    }

    /** "4 a NAME behind END that is another one than that of its UNIT or PROCEDURE." */
    private static void endNames() {
        good("INTERFACE Ab1; END Ab1.");
        T.fault(4, 1, "INTERFACE Ab1; END Ab2.");
        T.fault(4, 1, "INTERFACE Ab1; END ab1.");
        T.fault(4, 1, "INTERFACE Ab1; END Ab.");
        T.fault(4, 2, "INTERFACE A; END A. INTERFACE B; END\nA.");
        T.fault(4, 2, "MODULE M; PROCEDURE p () = BEGIN END\nM; BEGIN END M.");
        T.fault(4, 2, "MODULE M; PROCEDURE p () = BEGIN END p; BEGIN END\np.");
        T.fault(4, 2, "MODULE M; PROCEDURE p () = BEGIN END p; PROCEDURE q () = BEGIN END\np; BEGIN END M.");
        T.fault(2, 2, "MODULE M; PROCEDURE p () = BEGIN END\n; BEGIN END M.");
        T.fault(2, 2, "MODULE M; PROCEDURE p () = BEGIN END\n1; BEGIN END M.");
        T.fault(2, 2, "MODULE M; BEGIN END\n");
        T.fault(2, 2, "MODULE M; BEGIN END\nMODULE.");
        T.fault(1, 2, "MODULE M; BEGIN END\n$.");
    }

    /** "of one token the least" */
    private static void leastOfOneToken() {
        done(2, "x := " + times(20, "(") + "1 (" + times(21, ")") + ";");
        done(2, "x := " + times(20, "(") + "[1]" + times(20, ")") + ";");
        done(1, "x := " + times(20, "(") + "!" + times(20, ")") + ";");
        done(2, "b := " + times(20, "NOT ") + "b NOT b;");
        done(2, "b := " + times(20, "NOT ") + "b = NOT b;");
        done(1, "b := " + times(20, "NOT ") + "?;");
        told(2, "TYPE t = " + times(20, "REF ") + "OF;");
        told(1, "TYPE t = " + times(20, "REF ") + "abcdefghijklmnopq;");
        done(2, times(20, "LOOP ") + "ELSE;");
        done(1, times(20, "LOOP ") + "99999999999;");
        done(1, times(20, "LOOP ") + "abcdefghijklmnopq := 1;");
        T.fault(1, 1, "INTERFACE A; END abcdefghijklmnopq.");
        T.fault(1, 1, "INTERFACE A; END 1a.");
    }

    /** "the first one, token by token": ahead of all that later tokens and the rules have. */
    private static void firstToken() {
        T.fault(2, 2, "MODULE M; VAR v : nobody;\nVAR ; !");
        T.fault(1, 2, "MODULE M; VAR v : nobody;\n! VAR ;");
        T.fault(4, 2, "MODULE M; PROCEDURE p () = BEGIN END\nq ! BEGIN END M.");
        T.fault(3, 1, "MODULE M; BEGIN x := " + times(21, "(") + " !");
        T.fault(2, 3, "MODULE M; TYPE M = M; TYPE M = M;\nBEGIN EXIT;\nEND.");
    }
}
