/** Promise 1: a new object. */
public final class NewObjectTest {

    public static void main(String[] args) {
        Check check = new Check("NewObjectTest");
        SupervisorMachine m = new SupervisorMachine();
        for (int what = 0; what < 18; what++) {
            check.equal("get(" + what + ")", 0, m.get(what));
        }
        check.equal("STATUS: S and the MASK", 0x2700, m.get(18));
        for (int at = 0; at < 2048; at++) {
            check.equal("memory(" + at + ")", 0, m.memory(at));
        }
        for (int what = 0; what < 5; what++) {
            check.equal("device(" + what + ")", 0, m.device(what));
        }
        check.equal("nothing said", SupervisorMachine.NONE, m.said(0));
        check.equal("HALTED", 2, m.state());
        for (int vector = -1; vector < 50; vector++) {
            check.equal("counted(" + vector + ")", 0, m.counted(vector));
        }
        check.throwing("step of the halted one", IllegalStateException.class, m::step);
        check.equal("run of the halted one", 0, m.run(50));
        fenceAndLevelAreNotSet(check);
        objectsAreApart(check);
        check.end();
    }

    private static void fenceAndLevelAreNotSet(Check check) {
        Rig rig = new Rig(Rig.move(Rig.BYTE, Rig.d(0), Rig.SHORT_PLACE), 0).with(0, 7).with(Rig.STATUS, 0x2000);
        check.equal("no interrupt, and byte 0 can be written", 0, rig.step());
        check.equal("byte 0", 7, rig.m.memory(0));
    }

    private static void objectsAreApart(Check check) {
        SupervisorMachine one = new SupervisorMachine();
        SupervisorMachine two = new SupervisorMachine();
        one.put(10, 0xABCD);
        one.set(3, 9);
        one.type(1);
        check.equal("memory of the other object", 0, two.memory(10));
        check.equal("register of the other object", 0, two.get(3));
        check.equal("typed at the other object", 0, two.device(3));
    }
}
