/** Promises 11 get, 12 set: each sentence with a test of its own. */
public final class RegistersTest {

    private static final Class<IndexOutOfBoundsException> INDEX = IndexOutOfBoundsException.class;
    private static final int[] NONE_SUCH = {-1, 19, 20, 32, 256, Integer.MIN_VALUE, Integer.MAX_VALUE};

    public static void main(String[] args) {
        Check check = new Check("RegistersTest");
        check.sentence("Promise 11", "D0 .. D7 (0 .. 7), A0 .. A7 (8 .. 15), the OTHER (16), PC (17), STATUS (18).",
                RegistersTest::numbers);
        check.sentence("Promise 11", "IndexOutOfBoundsException when there is none such.", RegistersTest::getOutside);
        check.sentence("Promise 12", "The same becomes v", RegistersTest::values);
        check.sentence("Promise 12", "(the STATUS as by an instruction)", RegistersTest::status);
        check.sentence("Promise 12", "IndexOutOfBoundsException likewise.", RegistersTest::setOutside);
        check.end();
    }

    private static void numbers(Check check) {
        for (int r = 0; r < 8; r++) {
            Rig data = new Rig(Rig.op(14, r, 0, 0, 0x2A));
            data.step();
            check.equal("D" + r, 0x2A, data.get(r));
            Rig address = new Rig(Rig.op(14, r, 1, 0, Rig.SHORT_PLACE), 0x123);
            address.step();
            check.equal("A" + r, 0x123, address.get(8 + r));
        }
        Rig rig = new Rig(0x3724).with(12, 0x4321);
        rig.step();
        check.equal("the OTHER", 0x4321, rig.get(16));
        check.equal("PC", Rig.START + 2, rig.get(17));
        check.equal("STATUS", 0x2700, rig.get(18));
    }

    private static void getOutside(Check check) {
        for (int what : NONE_SUCH) {
            Refusal.throwing(check, "get(" + what + ")", INDEX, m -> m.get(what));
        }
        for (int what : new int[] {0, 18}) {
            Refusal.changesNothing(check, "get(" + what + ")", m -> m.get(what));
        }
    }

    private static void values(Check check) {
        Rig rig = new Rig();
        for (int what = 0; what < 18; what++) {
            rig.m.set(what, -1000 - what);
        }
        for (int what = 0; what < 18; what++) {
            check.equal("get(" + what + ")", -1000 - what, rig.m.get(what));
        }
        check.equal("STATUS stays", 0x2700, rig.get(18));
        for (int v : new int[] {0, -1, Integer.MIN_VALUE, Integer.MAX_VALUE, 0x01000001}) {
            for (int what = 0; what < 18; what++) {
                rig.m.set(what, v);
                check.equal("register " + what + " becomes " + v, v, rig.m.get(what));
            }
        }
        SupervisorMachine halted = new SupervisorMachine();
        halted.set(17, 0x500);
        check.equal("when HALTED, too", 0x500, halted.get(17));
        check.equal("it stays HALTED", 2, halted.state());
    }

    private static void status(Check check) {
        SupervisorMachine m = new SupervisorMachine();
        m.set(15, 111);
        m.set(16, 222);
        m.set(18, -1);
        check.equal("its other bits are 0", 0xA71F, m.get(18));
        check.equal("S stays 1, A7 stays", 111, m.get(15));
        check.equal("S stays 1, the OTHER stays", 222, m.get(16));
        m.set(18, 0x5FFF);
        check.equal("without S and T", 0x071F, m.get(18));
        check.equal("the other A7", 222, m.get(15));
        check.equal("the OTHER", 111, m.get(16));
        m.set(18, 0);
        check.equal("S stays 0, A7 stays", 222, m.get(15));
        check.equal("S stays 0, the OTHER stays", 111, m.get(16));
        m.set(18, 0xFFFF2000);
        check.equal("the lowest word counts", 0x2000, m.get(18));
        check.equal("back again", 111, m.get(15));
        check.equal("the OTHER, back again", 222, m.get(16));
        m.set(18, 0x20000);
        check.equal("a bit above is none of it", 0, m.get(18));
        check.equal("set does not start it", 2, m.state());
        Rig traced = new Rig(Rig.NOTHING);
        traced.m.set(18, 0xA700);
        check.equal("a T that is set counts for the next instruction", 9, traced.step());
    }

    private static void setOutside(Check check) {
        for (int what : NONE_SUCH) {
            Refusal.throwing(check, "set(" + what + ")", INDEX, m -> m.set(what, 0x0F0F0F0F));
        }
    }
}
