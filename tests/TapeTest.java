/** Promises 1 to 4: the tape. */
final class TapeTest {
    public static void main(String[] args) {
        Tell t = new Tell();
        LevelUnits x = new LevelUnits();
        for (int what = 0; what <= 13; what++) {
            t.due("count(" + what + ") of a new object", x.count(what), 0);
        }
        t.due("count(14)", x.count(14), LevelUnits.NONE);
        t.due("count(-1)", x.count(-1), LevelUnits.NONE);
        for (int i = 1; i <= 300; i++) {
            t.due("feed", x.feed(0x20202020, 0x20202020, 0x20202020, 0x20202020, 0x20202020), 20 * i);
        }
        t.due("feed beyond", x.feed(0, 0, 0, 0, 0), LevelUnits.NONE);
        t.due("count(3)", x.count(3), 6000);
        t.due("back(19)", x.back(19), 5981);
        t.due("feed beyond", x.feed(0, 0, 0, 0, 0), LevelUnits.NONE);
        t.due("back(-1)", x.back(-1), LevelUnits.NONE);
        t.due("back(5982)", x.back(5982), LevelUnits.NONE);
        t.due("back(0)", x.back(0), 5981);
        t.due("back(min)", x.back(Integer.MIN_VALUE), LevelUnits.NONE);
        t.due("back(1)", x.back(1), 5980);
        t.due("feed", x.feed(0, 0, 0, 0, 0), 6000);
        t.due("back(20)", x.back(20), 5980);
        t.due("back(5980)", x.back(5980), 0);
        t.due("read of an empty tape", x.read(), 2 + 16);
        t.due("count(3)", x.count(3), 0);
        x.feed(0x494E5445, 0x52464143, 0x4520413B, 0x20454E44, 0x20412E0A);
        t.due("read", x.read(), 0);
        t.due("count(3)", x.count(3), 0);
        t.due("count(0)", x.count(0), 6);
        t.due("count(1)", x.count(1), 1);
        t.due("read again", x.read(), 2 + 16);
        t.due("count(1) without a program", x.count(1), 0);
        t.end("TapeTest");
    }
}
