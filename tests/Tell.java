/** What the tests share: feeding texts, and telling what is not as it is due. */
final class Tell {
    private int wrong;
    private int asked;

    /** A new object that has read the text; `answer` is what read() is due to answer. */
    LevelUnits reading(String text, int answer) {
        LevelUnits x = new LevelUnits();
        feed(x, text);
        due("read() of " + text, x.read(), answer);
        return x;
    }

    /** A new object on whose program a run has begun. */
    LevelUnits running(String text, int seed) {
        LevelUnits x = reading(text, 0);
        x.begin(seed);
        return x;
    }

    /** The text is due to have the FAULT in the line. */
    void fault(int code, int line, String text) {
        reading(text, code + 16 * line);
    }

    static void feed(LevelUnits x, String text) {
        int at = 0;
        while (at < text.length()) {
            int[] words = new int[5];
            for (int i = 0; i < 20; i++) {
                int c = at + i < text.length() ? text.charAt(at + i) & 255 : ' ';
                words[i / 4] = words[i / 4] << 8 | c;
            }
            if (x.feed(words[0], words[1], words[2], words[3], words[4]) == LevelUnits.NONE) {
                throw new IllegalStateException("the test's text is too long");
            }
            at += 20;
        }
        x.back(at - text.length());
    }

    void due(String call, int got, int want) {
        asked++;
        if (got != want) {
            wrong++;
            if (wrong <= 20) {
                String told = call.length() > 600 ? call.substring(0, 600) + " .." : call;
                System.out.println(told + " answered " + got + ", due is " + want);
            }
        }
    }

    /** OUTPUT, from number 0 on. */
    void output(LevelUnits x, int... want) {
        due("count(12)", x.count(12), want.length);
        for (int i = 0; i < want.length; i++) {
            due("output(" + i + ")", x.output(i), want[i]);
        }
    }

    void end(String name) {
        System.out.println(name + ": " + (asked - wrong) + " of " + asked + " answers are as due");
        if (wrong != 0) {
            System.exit(1);
        }
    }
}
