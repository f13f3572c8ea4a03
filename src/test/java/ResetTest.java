/** Promise 5: reset, each sentence with a test of its own. */
public final class ResetTest {

    private static final String PROMISE = "Promise 5";

    public static void main(String[] args) {
        Check check = new Check("ResetTest");
        check.sentence(PROMISE, "S becomes 1 (as ever)", ResetTest::fromUser);
        check.sentence(PROMISE, "then the STATUS 0x2700", ResetTest::status);
        check.sentence(PROMISE, "A7 the long at 0 and the PC that at 4", ResetTest::stackAndPc);
        check.sentence(PROMISE, "timer and its level become 0, it asks no more", ResetTest::timer);
        check.sentence(PROMISE, "neither HALTED nor STOPPED.", ResetTest::fromStoppedAndHalted);
        check.sentence(PROMISE, "All else stays.", ResetTest::allElse);
        check.sentence(PROMISE, "All else stays.", ResetTest::fenceAndLevel);
        check.end();
    }

    private static void fromUser(Check check) {
        Rig rig = new Rig().user();
        check.equal("A7 of the user", Rig.USER_STACK, rig.get(15));
        check.equal("the OTHER of the user", Rig.STACK, rig.get(Rig.OTHER));
        rig.m.reset();
        check.equal("the user's A7 becomes the OTHER", Rig.USER_STACK, rig.get(Rig.OTHER));
        check.equal("A7", Rig.STACK, rig.get(15));
        rig.with(15, 77).with(Rig.OTHER, 88);
        rig.m.reset();
        check.equal("with S 1 before, the OTHER stays", 88, rig.get(Rig.OTHER));
        check.equal("and A7 is read", Rig.STACK, rig.get(15));
    }

    private static void status(Check check) {
        for (int before : new int[] {0x0000, 0x001F, 0x2000, 0xA71F, 0x8715, 0x2700}) {
            Rig rig = new Rig().with(Rig.STATUS, before);
            rig.m.reset();
            check.equal("STATUS after " + before, 0x2700, rig.get(Rig.STATUS));
        }
    }

    private static void stackAndPc(Check check) {
        long[] rows = {0x8765432112345679L, 0L, -1L, 0x0000000100000002L, 0x7FFFFFFF80000000L};
        for (long row : rows) {
            Rig rig = new Rig();
            rig.m.fill(0, 4, row);
            rig.m.reset();
            check.equal("A7 is the long at 0", (int) (row >>> 32), rig.get(15));
            check.equal("PC is the long at 4, odd or open too", (int) row, rig.pc());
            check.equal("no exception comes of it", 0, rig.m.state());
        }
        Rig fenced = new Rig();
        fenced.m.fence(2048);
        fenced.with(15, 1).with(Rig.PC, 3).m.reset();
        check.equal("the fence is none for reading", Rig.STACK, fenced.get(15));
        check.equal("nor for the PC", Rig.START, fenced.pc());
    }

    private static void timer(Check check) {
        Rig rig = new Rig(
                Rig.move(Rig.LONG, Rig.NUMBER, Rig.SHORT_PLACE), 1, 0x0500, 4098,
                Rig.move(Rig.WORD, Rig.NUMBER, Rig.SHORT_PLACE), 9, 4098, Rig.NOTHING);
        rig.m.run(2);
        check.equal("timer", 8, rig.m.device(0));
        check.equal("its level", 5, rig.m.device(1));
        check.equal("asks", 1, rig.m.device(2));
        rig.m.reset();
        check.equal("timer after reset", 0, rig.m.device(0));
        check.equal("its level after reset", 0, rig.m.device(1));
        check.equal("asks no more", 0, rig.m.device(2));
        rig.with(Rig.STATUS, 0x2000).with(Rig.PC, Rig.START + 14);
        check.equal("no interrupt of it", 0, rig.step());
        check.equal("a timer of 0 stays", 0, rig.m.device(0));
    }

    private static void fromStoppedAndHalted(Check check) {
        Rig rig = new Rig(Rig.STOP, 0x2700);
        rig.step();
        check.equal("STOPPED", 1, rig.m.state());
        rig.m.reset();
        check.equal("no more STOPPED", 0, rig.m.state());
        check.equal("it goes on", 0, rig.step());
        rig.m.reset();
        rig.with(15, 1).with(Rig.PC, 1).step();
        check.equal("HALTED", 2, rig.m.state());
        rig.m.reset();
        check.equal("no more HALTED", 0, rig.m.state());
        check.equal("it goes on, too", 0, rig.step());
        SupervisorMachine fresh = new SupervisorMachine();
        fresh.reset();
        check.equal("a new one is no more HALTED", 0, fresh.state());
        Rig both = new Rig(Rig.STOP, 0x2000);
        both.step();
        both.m.level(1);
        both.with(15, 1).step();
        check.equal("HALTED out of STOPPED", 2, both.m.state());
        both.m.reset();
        check.equal("neither", 0, both.m.state());
    }

    private static void allElse(Check check) {
        for (int from = 0; from < 2048; from += 256) {
            SupervisorMachine called = Situation.READY.machine();
            SupervisorMachine twin = Situation.READY.machine();
            called.reset();
            for (int at = from; at < from + 256; at++) {
                check.equal("memory(" + at + ")", twin.memory(at), called.memory(at));
            }
        }
        SupervisorMachine called = Situation.READY.machine();
        SupervisorMachine twin = Situation.READY.machine();
        called.reset();
        for (int what = 0; what < 15; what++) {
            check.equal("get(" + what + ")", twin.get(what), called.get(what));
        }
        check.equal("the OTHER", 0x1234, called.get(16));
        check.equal("typed", 5, called.device(3));
        check.equal("said", 1, called.device(4));
        check.equal("what was said", 0x5A, called.said(0));
        check.equal("counted", 1, called.counted(31));
    }

    private static void fenceAndLevel(Check check) {
        SupervisorMachine m = Situation.READY.machine();
        m.reset();
        m.set(15, 0x7F0);
        check.equal("the level stays set, and there was no step before", 31, m.step());
        check.equal("what is typed", 0, m.step());
        check.equal("is the first one", 0x31, m.get(3) & 255);
        check.equal("the fence stays", 2, m.step());
        check.equal("where it was", 0, m.step());
    }
}
