/** Promises 11 get, 12 set. */
public final class RegistersTest {

    public static void main(String[] args) {
        Check check = new Check("RegistersTest");
        Rig rig = new Rig();
        for (int what = 0; what < 18; what++) {
            rig.m.set(what, -1000 - what);
        }
        for (int what = 0; what < 18; what++) {
            check.equal("get(" + what + ")", -1000 - what, rig.m.get(what));
        }
        status(check);
        String before = rig.all();
        for (int what : new int[] {-1, 19, Integer.MIN_VALUE, Integer.MAX_VALUE}) {
            check.throwing("get(" + what + ")", IndexOutOfBoundsException.class, () -> rig.m.get(what));
            check.throwing("set(" + what + ")", IndexOutOfBoundsException.class, () -> rig.m.set(what, 1));
        }
        check.that("nothing is changed", before.equals(rig.all()));
        check.end();
    }

    private static void status(Check check) {
        SupervisorMachine m = new SupervisorMachine();
        m.set(15, 111);
        m.set(16, 222);
        m.set(18, -1);
        check.equal("its other bits are 0", 0xA71F, m.get(18));
        check.equal("S stays, A7 stays", 111, m.get(15));
        m.set(18, 0x5FFF);
        check.equal("without S and T", 0x071F, m.get(18));
        check.equal("the other A7", 222, m.get(15));
        check.equal("the OTHER", 111, m.get(16));
        m.set(18, 0);
        check.equal("S stays 0", 222, m.get(15));
        m.set(18, 0x2000);
        check.equal("back again", 111, m.get(15));
        check.equal("the OTHER, back again", 222, m.get(16));
        check.equal("set does not start it", 2, m.state());
    }
}
