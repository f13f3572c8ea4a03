/** Promise 8: level, each sentence with a test of its own; InterruptTest and StepEdgesTest have what comes of it. */
public final class LevelTest {

    private static final String PROMISE = "Promise 8";

    public static void main(String[] args) {
        Check check = new Check("LevelTest");
        check.sentence(PROMISE, "The level is set.", LevelTest::set);
        check.sentence(PROMISE, "IllegalArgumentException when it is not 0 .. 7.", LevelTest::refused);
        check.end();
    }

    private static void set(Check check) {
        for (int level = 0; level < 8; level++) {
            Rig rig = new Rig(Rig.NOTHING).with(Rig.STATUS, 0x2000);
            rig.m.level(level);
            check.equal("level " + level, level == 0 ? 0 : 24 + level, rig.step());
        }
        Rig rig = new Rig(Rig.NOTHING, Rig.NOTHING).with(Rig.STATUS, 0x2000);
        rig.m.level(6);
        rig.m.level(0);
        check.equal("the latest one counts", 0, rig.step());
        rig.m.level(3);
        rig.m.level(5);
        check.equal("not the first one", 29, rig.step());
        rig.with(Rig.STATUS, 0x2000);
        check.equal("it stays set", 29, rig.step());
        Rig halted = new Rig(Rig.NOTHING).with(Rig.PC, 1).with(15, 1);
        halted.step();
        halted.m.level(7);
        halted.m.reset();
        check.equal("set when HALTED", 31, halted.step());
    }

    private static void refused(Check check) {
        for (int level : new int[] {-1, 8, 9, 15, 256, Integer.MIN_VALUE, Integer.MAX_VALUE}) {
            Refusal.throwing(check, "level(" + level + ")", IllegalArgumentException.class, m -> m.level(level));
        }
    }
}
