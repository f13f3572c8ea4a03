/** Promise 1: a new object, each clause with a test of its own. */
public final class NewObjectTest {

    private static final String PROMISE = "Promise 1";

    public static void main(String[] args) {
        Check check = new Check("NewObjectTest");
        check.sentence(PROMISE, "Memory and registers are 0", NewObjectTest::memoryAndRegisters);
        check.sentence(PROMISE, "S is 1, the MASK 7", NewObjectTest::status);
        check.sentence(PROMISE, "nothing is typed or said", NewObjectTest::nothingTypedOrSaid);
        check.sentence(PROMISE, "the devices are 0", NewObjectTest::devices);
        check.sentence(PROMISE, "the fence is 0", NewObjectTest::fence);
        check.sentence(PROMISE, "no level is set", NewObjectTest::level);
        check.sentence(PROMISE, "HALTED.", NewObjectTest::halted);
        check.sentence("Promise 1, 16", "since the beginning", NewObjectTest::nothingCounted);
        check.sentence(PROMISE, "Memory and registers are 0", NewObjectTest::objectsAreApart);
        check.sentence("Promise 1 to 16", "An object is used for at most 512 calls after it has been made",
                NewObjectTest::lastCall);
        check.end();
    }

    private static void memoryAndRegisters(Check check) {
        for (int from = 0; from < 2048; from += 256) {
            SupervisorMachine m = new SupervisorMachine();
            for (int at = from; at < from + 256; at++) {
                check.equal("memory(" + at + ")", 0, m.memory(at));
            }
        }
        SupervisorMachine m = new SupervisorMachine();
        for (int what = 0; what < 18; what++) {
            check.equal("get(" + what + ")", 0, m.get(what));
        }
    }

    private static void status(Check check) {
        check.equal("STATUS: S and the MASK alone", 0x2700, new SupervisorMachine().get(18));
    }

    private static void nothingTypedOrSaid(Check check) {
        SupervisorMachine m = new SupervisorMachine();
        check.equal("typed", 0, m.device(3));
        check.equal("said", 0, m.device(4));
        check.equal("no byte 0 was said", SupervisorMachine.NONE, m.said(0));
        check.equal("nor was the last one", SupervisorMachine.NONE, m.said(63));
    }

    private static void devices(Check check) {
        SupervisorMachine m = new SupervisorMachine();
        for (int what = 0; what < 3; what++) {
            check.equal("device(" + what + ")", 0, m.device(what));
        }
        Rig rig = new Rig(Rig.move(Rig.LONG, Rig.SHORT_PLACE, Rig.d(0)), 4096,
                Rig.move(Rig.LONG, Rig.SHORT_PLACE, Rig.d(1)), 4100).with(0, -1).with(1, -1);
        rig.m.run(2);
        check.equal("the first four bytes", 0, rig.get(0));
        check.equal("the last four bytes", 0, rig.get(1));
        check.equal("a timer of 0 does not ask later", 0, rig.m.device(2));
    }

    private static void fence(Check check) {
        Rig rig = new Rig(Rig.move(Rig.BYTE, Rig.d(0), Rig.SHORT_PLACE), 0).with(0, 7);
        check.equal("the first byte can be written", 0, rig.step());
        check.equal("byte 0", 7, rig.m.memory(0));
    }

    private static void level(Check check) {
        Rig rig = new Rig(Rig.NOTHING, Rig.NOTHING).with(Rig.STATUS, 0x2000);
        check.equal("no interrupt though the MASK is 0", 0, rig.step());
        check.equal("nor later", 0, rig.step());
    }

    private static void halted(Check check) {
        SupervisorMachine m = new SupervisorMachine();
        check.equal("state", 2, m.state());
        check.throwing("step", IllegalStateException.class, m::step);
        check.equal("run", 0, m.run(50));
        check.equal("PC", 0, m.get(17));
    }

    private static void nothingCounted(Check check) {
        SupervisorMachine m = new SupervisorMachine();
        for (int vector = -1; vector < 50; vector++) {
            check.equal("counted(" + vector + ")", 0, m.counted(vector));
        }
    }

    private static void objectsAreApart(Check check) {
        SupervisorMachine one = Situation.READY.machine();
        SupervisorMachine two = new SupervisorMachine();
        check.equal("the first one has registers", 0x01020304, one.get(0));
        check.equal("memory of another object", 0, two.memory(0x301));
        check.equal("register of another object", 0, two.get(0));
        check.equal("typed at another object", 0, two.device(3));
        check.equal("said at another object", 0, two.device(4));
        check.equal("timer of another object", 0, two.device(0));
        check.equal("counted at another object", 0, two.counted(31));
    }

    private static void lastCall(Check check) {
        SupervisorMachine m = new SupervisorMachine();
        m.fill(0, 4, 0x600L << 32 | 0x100);
        m.fill(0x100, 2, 0x92800000L | Rig.branch(0, -4));
        m.reset();
        for (int call = 4; call < 512; call++) {
            check.equal("call " + call, 50, m.run(50));
        }
        check.equal("call 512", 508 * 25, m.get(0));
    }
}
