/** Promises 15 and 16: things made by NEW, and their ROOM. */
final class ThingsTest {
    private static final Tell T = new Tell();

    public static void main(String[] args) {
        things();
        first();
        room();
        T.end("ThingsTest");
    }

    private static void thing(LevelUnits x, int v, int type, int cells, int holder) {
        T.due("thing(" + v + ", 0)", x.thing(v, 0), type);
        T.due("thing(" + v + ", 1)", x.thing(v, 1), cells);
        T.due("thing(" + v + ", 2)", x.thing(v, 2), holder);
        T.due("thing(" + v + ", 3)", x.thing(v, 3), -1);
        T.due("thing(" + v + ", -1)", x.thing(v, -1), -1);
    }

    private static void things() {
        LevelUnits x = T.running("MODULE M; TYPE i = INTEGER; TYPE o = OBJECT a : INTEGER; END; TYPE o2 = o OBJECT b, c : BOOLEAN; END; TYPE f = REF RECORD x, y : i; END;\n"
                + "TYPE op <: o; REVEAL op = o2 OBJECT d : op; END; TYPE o3 = OBJECT a : i; END; VAR v : o; VAR r : ROOT; VAR g : REF RECORD x, y : INTEGER; END;"
                + " VAR m : MUTEX; VAR c : CONDITION; VAR h : REF REF i; VAR p : op; BEGIN\n"
                + "v := NEW(o2); g := NEW(REF RECORD x, y : INTEGER; END); m := NEW(MUTEX); c := NEW(CONDITION); h := NEW(REF REF i); r := NEW(ROOT); p := NEW(op); v := NEW(o3);\n"
                + "r := NEW(OBJECT a : BOOLEAN; END); p.a := 1; p.b := TRUE; p.c := FALSE; p.d := p; LOCK m DO r := NEW(o2 OBJECT z : RECORD END; END); LOOP END; END; END M.", 1);
        T.due("count(9)", x.count(9), 0);
        T.due("thing(1, 0)", x.thing(1, 0), -1);
        x.run(20);
        T.due("count(9)", x.count(9), 10);
        T.due("count(10)", x.count(10), 3 + 2 + 1 + 1 + 1 + 0 + 4 + 1 + 1 + 3);
        thing(x, 0, -1, -1, -1);
        thing(x, 1, 2, 3, -1);
        thing(x, 2, 3, 2, -1);
        thing(x, 3, -1, 1, 0);
        thing(x, 4, -1, 1, 0);
        thing(x, 5, -1, 1, -1);
        thing(x, 6, -1, 0, -1);
        thing(x, 7, 4, 4, -1);
        thing(x, 8, 1, 1, -1);
        thing(x, 9, -1, 1, -1);
        thing(x, 10, -1, 3, -1);
        thing(x, 11, -1, -1, -1);
        int[] cells = {0, 1, 1, 0, 7, 0};
        for (int i = -1; i < 5; i++) {
            T.due("inside(7, " + i + ")", x.inside(7, i), cells[i + 1]);
        }
        T.due("inside(3, 0)", x.inside(3, 0), 0);
        T.due("inside(11, 0)", x.inside(11, 0), 0);
        T.due("inside(0, 0)", x.inside(0, 0), 0);
        T.due("inside(-1, 0)", x.inside(-1, 0), 0);
        x.begin(1);
        thing(x, 1, -1, -1, -1);
        T.due("count(10)", x.count(10), 0);
    }

    private static void first() {
        LevelUnits x = T.running("MODULE M; TYPE o = OBJECT a : [2 .. 4]; b : INTEGER; END; TYPE p = o OBJECT c : ARRAY [0 .. 1] OF RECORD x : BOOLEAN; y : [- 7 .. - 3]; END; END; VAR v : ROOT;"
                + " VAR r : REF [5 .. 6]; BEGIN v := NEW(p); r := NEW(REF [5 .. 6]); END M.", 1);
        x.run(5);
        int[] cells = {2, 0, 0, -3, 0, -3, 0};
        for (int i = 0; i < cells.length; i++) {
            T.due("inside(1, " + i + ")", x.inside(1, i), cells[i]);
        }
        T.due("inside(2, 0)", x.inside(2, 0), 5);
    }

    private static void room() {
        LevelUnits x = T.running("MODULE M; VAR o : ROOT; BEGIN LOOP\no := NEW(ROOT); END; END M.", 1);
        x.run(2000);
        x.run(2000);
        T.due("FAULT", x.thread(0, 4), -1);
        x.run(2000);
        T.due("FAULT", x.thread(0, 4), 9);
        T.due("line", x.thread(0, 1), 2);
        T.due("count(9)", x.count(9), 2000);
        T.due("count(10)", x.count(10), 0);
        x = T.running("MODULE M; TYPE a = ARRAY [1 .. 1000] OF RECORD x, y : INTEGER; END; VAR r : REF a; VAR o : ROOT; BEGIN FOR i := 1 TO 11 DO\nPUT i; r := NEW(REF a); END; END M.", 1);
        x.run(2000);
        T.due("FAULT", x.thread(0, 4), 9);
        T.due("count(9)", x.count(9), 10);
        T.due("count(10)", x.count(10), 20000);
        T.due("count(12)", x.count(12), 11);
        T.due("inside(10, 1999)", x.inside(10, 1999), 0);
        x = T.running("MODULE M; TYPE a = ARRAY [1 .. 1000] OF RECORD x, y : INTEGER; END; TYPE o = OBJECT a, b, c, d, e, f, g, h, i, j : a; END; TYPE p = o OBJECT k : INTEGER; END; VAR r : ROOT;"
                + " BEGIN r := NEW(o); r := NEW(ROOT);\nr := NEW(p); END M.", 1);
        T.due("run", x.run(5), 3);
        T.due("FAULT", x.thread(0, 4), 9);
        T.due("count(10)", x.count(10), 20000);
        T.due("count(9)", x.count(9), 2);
    }
}
