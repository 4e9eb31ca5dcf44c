/** Calls with any arguments in any state: what they throw, and that all of them end. */
final class WildTest {
    private static final String[] PIECES = {"MODULE M; ", "BEGIN ", "END M. ", "INTERFACE A; ", "END A. ", "TYPE t = ", "VAR v : ", "t; ", "INTEGER; ", "REF ", "OBJECT ", "END; ",
        "v := ", "v", "1", "; ", "(", ")", "[", "]", "^", ".", "NEW(", "IF ", "THEN ", "TRY ", "EXCEPT ", "FINALLY ", "LOCK ", "DO ", "+ ", "NOT ", "PROCEDURE p ", "() ", "= ", "END p; ",
        "p(); ", "RAISES { e } ", "EXCEPTION e; ", "REVEAL t ", "<: ", "ROOT; ", "METHODS m () ", "OVERRIDES m := p; ", ":= p; ", "FORK ", "(* ", "*) ", "\n", "TYPECASE v OF ", "| ", "=> ", "LOOP "};
    private static long state = 12345;

    private static int next(int bound) {
        state = state * 6364136223846793005L + 1442695040888963407L;
        return (int) ((state >>> 33) % bound);
    }

    private static int any() {
        int k = next(10);
        return k < 6 ? next(9) - 2 : k < 8 ? next(3000) - 200 : k == 8 ? Integer.MIN_VALUE + next(2) : Integer.MAX_VALUE - next(2);
    }

    private static String text() {
        StringBuilder b = new StringBuilder(next(3) == 0 ? "" : "MODULE M; VAR v, w : INTEGER; PROCEDURE p () = BEGIN END p; ");
        int pieces = next(30);
        for (int i = 0; i < pieces; i++) {
            b.append(next(40) == 0 ? String.valueOf((char) next(256)) : PIECES[next(PIECES.length)]);
        }
        return b.toString();
    }

    private static void call(LevelUnits x, Tell t) {
        switch (next(18)) {
            case 0 -> x.feed(any(), any(), any(), any(), any());
            case 1 -> x.back(any());
            case 2 -> x.count(any());
            case 3 -> x.alike(any(), any());
            case 4 -> x.below(any(), any(), any());
            case 5 -> x.type(any(), any());
            case 6 -> x.sees(any(), any());
            case 7 -> x.output(any());
            case 8 -> x.cell(any());
            case 9 -> x.thread(any(), any());
            case 10 -> x.thing(any(), any());
            case 11 -> x.inside(any(), any());
            case 12 -> {
                try {
                    x.begin(any());
                    t.due("a program", x.count(1) > 0 ? 1 : 0, 1);
                } catch (IllegalStateException e) {
                    t.due("a program", x.count(1), 0);
                }
            }
            case 13, 14 -> {
                int n = any();
                boolean begun = x.count(5) != 0;
                try {
                    int done = x.run(n);
                    t.due("steps fit", done >= 0 && done <= n && n <= 2000 && begun ? 1 : 0, 1);
                } catch (IllegalArgumentException e) {
                    t.due("n is wrong", n < 0 || n > 2000 ? 1 : 0, 1);
                } catch (IllegalStateException e) {
                    t.due("no run", begun ? 1 : 0, 0);
                }
            }
            case 15 -> x.read();
            default -> {
                x.back(x.count(3));
                Tell.feed(x, text());
                x.read();
            }
        }
    }

    public static void main(String[] args) {
        Tell t = new Tell();
        String program = "INTERFACE A; TYPE t <: ROOT; PROCEDURE p (x : t); END A. MODULE A; REVEAL t = OBJECT f : INTEGER; METHODS m () := p; END; VAR v : t; VAR h : THREAD; VAR m : MUTEX;"
                + " PROCEDURE p (x : t) = BEGIN LOCK m DO x.f := x.f + 1; PUT x.f; END; END p; BEGIN m := NEW(MUTEX); v := NEW(t); LOOP h := FORK v.m(); h := FORK p(v); v.m(); END; END A.";
        for (int i = 0; i < 300; i++) {
            LevelUnits x = new LevelUnits();
            if (i % 2 == 0) {
                Tell.feed(x, program);
                t.due("read", x.read(), 0);
                x.begin(i);
            }
            for (int j = 0; j < 512; j++) {
                call(x, t);
            }
        }
        t.end("WildTest");
    }
}
