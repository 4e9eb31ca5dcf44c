/** Promise 14: threads, their order, MUTEXes, CONDITIONs, JOIN; ROOM for calls and threads. */
final class ThreadsTest {
    private static final Tell T = new Tell();
    private static final int GOES_ON = 1;
    private static final int ENDED = 2;
    private static final int STANDS = 3;

    public static void main(String[] args) {
        order();
        forks();
        locks();
        conditions();
        joins();
        held();
        room();
        T.end("ThreadsTest");
    }

    /** What thread(t, 0 .. 5) is due to answer. */
    private static void thread(LevelUnits x, int t, int... want) {
        for (int what = 0; what < want.length; what++) {
            T.due("thread(" + t + ", " + what + ")", x.thread(t, what), want[what]);
        }
    }

    /** The k-th READY thread is chosen by the seed alone. */
    private static void order() {
        String text = "MODULE M; VAR t : THREAD; PROCEDURE p (k : INTEGER) = BEGIN LOOP PUT k; END; END p;\n"
                + "BEGIN t := FORK p(1); t := FORK p(2); LOOP PUT 0; END; END M.";
        int[] seeds = {0, 1, -1, 12345, Integer.MIN_VALUE, Integer.MAX_VALUE, 777777777};
        for (int seed : seeds) {
            LevelUnits x = T.running(text, seed);
            int s = seed;
            int made = 1;
            int acts = 0;
            boolean[] puts = new boolean[3];
            int outputs = 0;
            for (int step = 0; step < 200; step++) {
                s = s * 1103515245 + 12345;
                int k = (s >>> 16) % made;
                T.due("run(1)", x.run(1), 1);
                if (k == 0 && acts < 2) {
                    acts++;
                    made++;
                } else if (puts[k]) {
                    T.due("output(" + outputs + ") of seed " + seed, x.output(outputs), k);
                    outputs++;
                    puts[k] = false;
                } else {
                    puts[k] = true;
                }
                T.due("count(7)", x.count(7), made);
                T.due("count(12)", x.count(12), outputs);
            }
        }
    }

    private static void forks() {
        LevelUnits x = T.running("MODULE M; VAR t, u : THREAD; PROCEDURE p (k : INTEGER; z : RECORD a, b : INTEGER; END) = VAR l : INTEGER; BEGIN\nPUT k; END p;\n"
                + "PROCEDURE q () = BEGIN TRY EXCEPT END; END q; PROCEDURE r () : INTEGER = BEGIN END r; PROCEDURE f () : [1 .. 2] = BEGIN\nRETURN 3; END f;\n"
                + "VAR z : RECORD a, b : INTEGER; END; BEGIN t := FORK p(5, z);\nu := FORK q();\nu := FORK r(); u := FORK f(); END M.", 1);
        thread(x, 0, 0, 5, 0, 0, -1, 0, -1);
        thread(x, 1, -1, -1, -1, -1, -1, -1);
        T.due("run(1)", x.run(1), 1);
        thread(x, 1, 0, 2, 1, 0, -1, 0);
        T.due("cell(0)", x.cell(0), 2);
        T.due("count(11)", x.count(11), 4);
        x.run(2000);
        // q is over at once; r comes to its END at once, f's RESULT is held against its type
        T.due("count(7)", x.count(7), 5);
        T.due("count(8)", x.count(8), 5);
        T.due("cell(1)", x.cell(1), 5);
        thread(x, 0, 4, 0, 0, 0, -1, 0);
        thread(x, 1, 4, 0, 0, 0, -1, 0);
        thread(x, 2, 4, 0, 0, 0, -1, 0);
        thread(x, 3, 6, 3, 0, 0, 11, 0);
        thread(x, 4, 6, 4, 0, 0, 4, 0);
        T.due("count(5)", x.count(5), ENDED);
        T.due("count(11)", x.count(11), 0);
        T.due("count(6)", x.count(6), 6);
        // parameters are worked out by the thread that does it
        x = T.running("MODULE M; VAR t : THREAD; VAR v : PROCEDURE (k : INTEGER); PROCEDURE p (k : [1 .. 2]) = BEGIN END p; BEGIN\nt := FORK p(3); END M.", 1);
        x.run(9);
        thread(x, 0, 6, 2, 0, 0, 4, 0);
        T.due("count(7)", x.count(7), 1);
        x = T.running("MODULE M; VAR t : THREAD; VAR v : PROCEDURE (k : INTEGER); BEGIN\nt := FORK v(1 DIV 0); END M.", 1);
        x.run(9);
        thread(x, 0, 6, 2, 0, 0, 10, 0);
    }

    private static void locks() {
        LevelUnits x = T.running("MODULE M; VAR m : MUTEX; VAR t : THREAD; PROCEDURE p () = BEGIN\nLOCK m DO\nPUT 1; END; END p; BEGIN\n"
                + "m := NEW(MUTEX); LOCK m DO\nt := FORK p();\nWHILE TRUE DO EXIT; END; END; END M.", 1);
        x.run(2);
        T.due("count(13)", x.count(13), 1);
        T.due("thing(1, 2)", x.thing(1, 2), 0);
        x.run(1);
        thread(x, 1, 0, 2, 1, 0, -1, 0);
        // thread 1 WAITS as soon as it is chosen, and is READY again when the MUTEX is free
        boolean waited = false;
        for (int i = 0; i < 20 && x.count(5) == GOES_ON; i++) {
            waited |= x.thread(1, 0) == 1;
            if (x.thread(1, 0) == 1) {
                thread(x, 1, 1, 2, 1, 1, -1, 0);
            }
            x.run(1);
        }
        T.due("count(5)", x.count(5), ENDED);
        T.due("count(13)", x.count(13), 0);
        T.output(x, 1);
        // one that holds it itself WAITS for good
        x = T.running("MODULE M; VAR m : MUTEX; BEGIN m := NEW(MUTEX); LOCK m DO\nLOCK m DO PUT 1; END; END; END M.", 1);
        T.due("run(9)", x.run(9), 3);
        T.due("count(5)", x.count(5), STANDS);
        thread(x, 0, 1, 2, 0, 1, -1, 0);
        T.due("run(9)", x.run(9), 0);
        // what a thread that FAILED holds stays held
        x = T.running("MODULE M; VAR m : MUTEX; VAR t : THREAD; PROCEDURE p () = BEGIN LOCK m DO TRY PUT 1 DIV 0; FINALLY PUT 2; END; END; END p;\n"
                + "BEGIN m := NEW(MUTEX); t := FORK p(); JOIN t; LOCK m DO PUT 3; END; END M.", 1);
        x.run(2000);
        T.due("count(5)", x.count(5), STANDS);
        T.due("thing(1, 2)", x.thing(1, 2), 1);
        T.due("count(13)", x.count(13), 1);
        T.output(x);
        x = T.running("MODULE M; VAR m : MUTEX; BEGIN\nLOCK m DO END; END M.", 1);
        x.run(1);
        thread(x, 0, 6, 2, 0, 0, 5, 0);
    }

    private static void conditions() {
        String told = "MODULE M; VAR m : MUTEX; VAR c : CONDITION; VAR t : THREAD; VAR n : INTEGER; PROCEDURE p (k : INTEGER) = BEGIN LOCK m DO n := n + 1;\n"
                + "WAIT m, c;\nPUT k; END; END p; BEGIN m := NEW(MUTEX); c := NEW(CONDITION); FOR i := 1 TO 3 DO t := FORK p(i); WHILE n < i DO END; END;\n";
        for (int seed = 0; seed < 5; seed++) {
            // they stand in the row as they came, and leave it in that order
            LevelUnits x = T.running(told + "LOCK m DO END; LOOP EXIT; END; END M.", seed);
            x.run(2000);
            T.due("count(5)", x.count(5), STANDS);
            T.due("thing(2, 2)", x.thing(2, 2), 3);
            T.due("count(13)", x.count(13), 0);
            for (int i = 1; i <= 3; i++) {
                thread(x, i, 2, 2, 1, 2, -1, 0);
            }
            x = T.running(told + "LOCK m DO SIGNAL c; WHILE TRUE DO EXIT; END; END; END M.", seed);
            x.run(2000);
            T.output(x, 1);
            T.due("thing(2, 2)", x.thing(2, 2), 2);
            x = T.running(told + "LOCK m DO SIGNAL c; SIGNAL c; n := 0; END; END M.", seed);
            x.run(2000);
            T.due("count(12)", x.count(12), 2);
            T.due("sum", x.output(0) + x.output(1), 3);
            x = T.running(told + "LOCK m DO BROADCAST c;\nJOIN t; END; END M.", seed);
            x.run(2000);
            // all WAIT for the MUTEX, which thread 0 holds while it WAITS for thread 3
            T.due("count(5)", x.count(5), STANDS);
            thread(x, 0, 3, 5, 0, 4, -1, 0);
            thread(x, 1, 1, 2, 1, 1, -1, 0);
            thread(x, 3, 1, 2, 1, 1, -1, 0);
            T.due("thing(2, 2)", x.thing(2, 2), 0);
            x = T.running(told + "LOCK m DO END; BROADCAST c; SIGNAL c; END M.", seed);
            x.run(2000);
            T.due("count(5)", x.count(5), ENDED);
            T.due("sum", x.output(0) + x.output(1) + x.output(2), 6);
        }
        String m = "MODULE M; VAR m : MUTEX; VAR c : CONDITION; BEGIN m := NEW(MUTEX);\n";
        fails(5, m + "WAIT m, c; END M.");
        fails(5, m + "m := NIL; c := NEW(CONDITION); WAIT m, c; END M.");
        fails(8, m + "c := NEW(CONDITION); WAIT m, c; END M.");
        fails(2, "MODULE M; VAR m : MUTEX; VAR c : ARRAY [0 .. 1] OF CONDITION; BEGIN\nWAIT m, c[1 DIV 0]; END M.");
        fails(5, m + "SIGNAL c; END M.");
        fails(5, m + "BROADCAST c; END M.");
        fails(5, m + "JOIN NIL; END M.");
    }

    private static void fails(int fault, String text) {
        LevelUnits x = T.running(text, 1);
        x.run(20);
        thread(x, 0, 6, 2, 0, 0, fault, 0);
    }

    private static void joins() {
        LevelUnits x = T.running("MODULE M; VAR t : THREAD; EXCEPTION g; EXCEPTION e; PROCEDURE p () RAISES { e } = BEGIN\nRAISE e(- 4); END p; BEGIN\nt := FORK p();\nJOIN t; JOIN t; PUT 1; END M.", 1);
        x.run(2000);
        T.due("count(5)", x.count(5), ENDED);
        thread(x, 1, 5, 2, 0, 0, 1, -4);
        T.output(x, 1);
        // once over, JOIN goes on at once; a thread that JOINs itself WAITS for good
        x = T.running("MODULE M; VAR t : THREAD; PROCEDURE p () = BEGIN END p; PROCEDURE q () = BEGIN WHILE t = NIL DO END;\nJOIN t; END q; BEGIN\nt := FORK p(); JOIN t; t := NIL; t := FORK q(); END M.", 1);
        T.due("run(2)", x.run(2), 2);
        T.due("line", x.thread(0, 1), 3);
        x.run(2000);
        T.due("count(5)", x.count(5), STANDS);
        thread(x, 2, 3, 2, 1, 3, -1, 0);
    }

    /** LOCKs are given back on the way of a RAISE, RETURN, EXIT, from the innermost one outward. */
    private static void held() {
        LevelUnits x = T.running("MODULE M; EXCEPTION e; VAR m, n : MUTEX; PROCEDURE p () = BEGIN LOCK m DO LOCK n DO RETURN; END; END; END p; BEGIN\n"
                + "m := NEW(MUTEX); n := NEW(MUTEX); p(); TRY LOCK m DO TRY LOCK n DO RAISE e(1); END; FINALLY PUT 1;\nPUT 2; END; END; EXCEPT | e(v) => PUT 3; END;\n"
                + "LOOP LOCK m DO EXIT; END; END; END M.", 1);
        x.run(6);
        T.due("count(13)", x.count(13), 0);
        x.run(3);
        T.due("thing(1, 2)", x.thing(1, 2), 0);
        T.due("thing(2, 2)", x.thing(2, 2), -1);
        x.run(2);
        T.due("count(13)", x.count(13), 0);
        x.run(100);
        T.due("count(5)", x.count(5), ENDED);
        T.due("count(13)", x.count(13), 0);
        T.output(x, 1, 2, 3);
    }

    private static void room() {
        LevelUnits x = T.running("MODULE M; PROCEDURE p (k : INTEGER) = BEGIN PUT k;\np(k + 1); END p; BEGIN p(1); END M.", 1);
        x.run(2000);
        thread(x, 0, 6, 2, 0, 0, 9, 0);
        T.due("count(12)", x.count(12), 60);
        x = T.running("MODULE M; VAR t : THREAD; PROCEDURE p (k : INTEGER) = BEGIN PUT k;\np(k + 1); END p; BEGIN t := FORK p(1); END M.", 1);
        x.run(2000);
        thread(x, 1, 6, 2, 0, 0, 9, 0);
        T.due("count(12)", x.count(12), 60);
        String told = "MODULE M; TYPE a = ARRAY [1 .. 999] OF INTEGER; PROCEDURE p (k : INTEGER; VAR v : INTEGER) = VAR l : a; BEGIN\nk := k + 1; p(k, k); END p; VAR t : THREAD; VAR i : INTEGER;"
                + " PROCEDURE q () = VAR l, n : a; VAR x, y : INTEGER; BEGIN LOOP END; END q; PROCEDURE r () = VAR l, n : a; VAR x, y, z : INTEGER; BEGIN LOOP END; END r; BEGIN\n";
        x = T.running(told + "p(1, i); END M.", 1);
        x.run(1);
        T.due("count(11)", x.count(11), 1001);
        x.run(2000);
        thread(x, 0, 6, 2, 0, 0, 9, 0);
        x = T.running(told + "q(); END M.", 1);
        x.run(1);
        T.due("count(11)", x.count(11), 2000);
        thread(x, 0, 0, 2, 1, 0, -1, 0);
        x = T.running(told + "\nr(); END M.", 1);
        x.run(1);
        thread(x, 0, 6, 4, 0, 0, 9, 0);
        x = T.running(told + "\nt := FORK r(); END M.", 1);
        x.run(1);
        thread(x, 0, 6, 4, 0, 0, 9, 0);
        x = T.running("MODULE M; VAR t : THREAD; PROCEDURE p () = BEGIN END p; BEGIN FOR i := 1 TO 70 DO PUT i;\nt := FORK p(); END; END M.", 1);
        x.run(2000);
        T.due("count(7)", x.count(7), 64);
        T.due("count(12)", x.count(12), 64);
        thread(x, 0, 6, 2, 0, 0, 9, 0);
        T.due("cell(0)", x.cell(0), 64);
        thread(x, 63, 4, 0, 0, 0, -1, 0);
        thread(x, 64, -1, -1);
    }
}
