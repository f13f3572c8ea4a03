/** Promise 16: counted, each sentence with a test of its own. */
public final class CountedTest {

    private static final String PROMISE = "Promise 16";

    public static void main(String[] args) {
        Check check = new Check("CountedTest");
        check.sentence(PROMISE, "How many exceptions of a vector", CountedTest::eachVector);
        check.sentence(PROMISE, "were worked off wholly (the PC read)", CountedTest::wholly);
        check.sentence(PROMISE, "since the beginning", CountedTest::sinceTheBeginning);
        check.sentence(PROMISE, "0 when there is none such.", CountedTest::noneSuch);
        check.end();
    }

    private static void onlyOne(Check check, int vector, Rig rig) {
        check.equal("vector " + vector, vector, rig.step());
        for (int other = 0; other < 48; other++) {
            check.equal("counted(" + other + ") behind " + vector, other == vector ? 1 : 0, rig.m.counted(other));
        }
    }

    private static void eachVector(Check check) {
        onlyOne(check, 2, new Rig().with(Rig.PC, 2048));
        onlyOne(check, 3, new Rig().with(Rig.PC, 1));
        onlyOne(check, 4, new Rig(0x3FFF));
        onlyOne(check, 5, new Rig(Rig.op(8, 0, 0, 3, Rig.d(1))));
        onlyOne(check, 6, new Rig(Rig.op(14, 0, 1, 1, Rig.d(1))).with(0, 1));
        onlyOne(check, 7, new Rig(0x3736).flags(Rig.V));
        onlyOne(check, 8, new Rig(0x3730).user());
        onlyOne(check, 9, new Rig(Rig.NOTHING).with(Rig.STATUS, 0xA700));
        onlyOne(check, 10, new Rig(0xA000));
        onlyOne(check, 11, new Rig(0xF000));
        for (int level = 1; level < 8; level++) {
            Rig rig = new Rig(Rig.NOTHING).with(Rig.STATUS, 0x2000);
            rig.m.level(level);
            onlyOne(check, 24 + level, rig);
        }
        for (int k = 0; k < 16; k++) {
            onlyOne(check, 32 + k, new Rig(0x3700 + k));
        }
        Rig both = new Rig(0x3700).with(Rig.STATUS, 0xA700);
        both.step();
        check.equal("two in one step: the call", 1, both.m.counted(32));
        check.equal("two in one step: the trace", 1, both.m.counted(9));
    }

    private static void wholly(Check check) {
        Rig call = new Rig(0x3700).with(15, 1);
        check.equal("a call that halts", 32, call.step());
        check.equal("is not counted", 0, call.m.counted(32));
        check.equal("nor is the error in it", 0, call.m.counted(3));
        Rig half = new Rig(0x3700).with(15, 0x404);
        half.m.fence(0x400);
        half.step();
        check.equal("half a frame is not counted", 0, half.m.counted(32) + half.m.counted(2));
        Rig error = new Rig().with(Rig.PC, 2048).with(15, 0x40C);
        error.m.fence(0x400);
        check.equal("an error whose frame lacks its last word", 2, error.step());
        check.equal("is not counted, either", 0, error.m.counted(2));
        Rig whole = new Rig().with(Rig.PC, 2048).with(15, 0x40E);
        whole.m.fence(0x400);
        whole.step();
        check.equal("with room for all of it, it is", 1, whole.m.counted(2));
    }

    private static void sinceTheBeginning(Check check) {
        Rig rig = new Rig(0x3700).write(Rig.handler(32), 0x3700);
        check.equal("none yet", 0, rig.m.counted(32));
        rig.m.run(4);
        check.equal("four", 4, rig.m.counted(32));
        rig.m.reset();
        check.equal("reset() is no beginning", 4, rig.m.counted(32));
        rig.m.run(1);
        check.equal("five", 5, rig.m.counted(32));
        rig.with(15, 1).step();
        check.equal("HALTED", 2, rig.m.state());
        check.equal("still five", 5, rig.m.counted(32));
        Rig many = new Rig(0x3700).write(Rig.handler(32), 0x3700).with(15, 0x7FE);
        for (int i = 0; i < 6; i++) {
            many.m.run(50);
            many.with(15, 0x7FE);
        }
        check.equal("three hundred", 300, many.m.counted(32));
    }

    private static void noneSuch(Check check) {
        Rig rig = new Rig(0x3700).write(Rig.handler(32), 0x370F);
        rig.m.run(2);
        check.equal("the first call", 1, rig.m.counted(32));
        check.equal("the last call", 1, rig.m.counted(47));
        int[] none = {0, 1, 12, 23, 24, 48, 49, 64, -1, -32, Integer.MIN_VALUE, Integer.MAX_VALUE};
        for (int vector : none) {
            check.equal("counted(" + vector + ")", 0, rig.m.counted(vector));
            Refusal.changesNothing(check, "counted(" + vector + ")",
                    m -> check.equal("counted(" + vector + ")", 0, m.counted(vector)));
        }
    }
}
