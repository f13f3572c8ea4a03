/** Promises 9 type, 10 said, 14 device; the bytes of the devices. */
public final class PortTest {

    public static void main(String[] args) {
        Check check = new Check("PortTest");
        typed(check);
        said(check);
        wholeLong(check);
        deadBytes(check);
        device(check);
        guarded(check);
        check.end();
    }

    private static void typed(Check check) {
        int read = Rig.move(Rig.BYTE, Rig.SHORT_PLACE, Rig.d(0));
        int count = Rig.move(Rig.BYTE, Rig.SHORT_PLACE, Rig.d(1));
        Rig rig = new Rig(read, 4096, count, 4097, branchBack(8));
        for (int i = 0; i < 16; i++) {
            check.that("room for " + i, rig.m.type(0x100 + 200 + i));
        }
        check.that("full", !rig.m.type(1));
        check.equal("sixteen", 16, rig.m.device(3));
        for (int i = 0; i < 40; i++) {
            rig.m.run(3);
            check.equal("in their order, " + i, 200 + i, rig.get(0) & 255);
            check.equal("how many are left", 15, rig.get(1) & 255);
            check.that("room for one behind the others", rig.m.type(200 + 16 + i));
            check.that("and no more", !rig.m.type(7));
        }
        Rig empty = new Rig(read, 4096).with(0, 0x1234);
        empty.step();
        check.equal("0 if nothing is typed", 0x1200, empty.get(0));
        check.equal("still nothing is typed", 0, empty.m.device(3));
    }

    private static int branchBack(int bytes) {
        return Rig.branch(0, -bytes - 2);
    }

    private static void said(Check check) {
        Rig rig = new Rig(Rig.move(Rig.BYTE, Rig.d(0), Rig.SHORT_PLACE), 4096,
                Rig.op(9, 1, 0, Rig.LONG, Rig.d(0)), branchBack(6)).with(0, 0xF0);
        rig.m.run(3);
        check.equal("first", 0xF0, rig.m.said(0));
        check.equal("no second", SupervisorMachine.NONE, rig.m.said(1));
        check.equal("none before", SupervisorMachine.NONE, rig.m.said(-1));
        for (int i = 0; i < 4; i++) {
            rig.m.run(50);
        }
        check.equal("64 at most", 64, rig.m.device(4));
        check.equal("the last of them", 0xF0 + 63 & 255, rig.m.said(63));
        for (int k : new int[] {64, -1, Integer.MIN_VALUE, Integer.MAX_VALUE}) {
            check.equal("said(" + k + ")", SupervisorMachine.NONE, rig.m.said(k));
        }
    }

    private static void wholeLong(Check check) {
        Rig rig = new Rig(Rig.move(Rig.LONG, Rig.SHORT_PLACE, Rig.d(0)), 4096,
                Rig.move(Rig.LONG, Rig.d(1), Rig.SHORT_PLACE), 4096).with(1, 0x41FF1234);
        rig.m.type(0x55);
        rig.m.type(0x66);
        rig.step();
        check.equal("the first one is gone when they are counted", 0x55010000, rig.get(0));
        rig.step();
        check.equal("said", 0x41, rig.m.said(0));
        check.equal("said once", 1, rig.m.device(4));
        check.equal("the timer behind the step", 0x1233, rig.m.device(0));
        check.equal("the count is not written", 1, rig.m.device(3));
    }

    private static void deadBytes(Check check) {
        Rig rig = new Rig(Rig.move(Rig.LONG, Rig.d(0), Rig.SHORT_PLACE), 4100,
                Rig.move(Rig.LONG, Rig.SHORT_PLACE, Rig.d(1)), 4100,
                Rig.move(Rig.BYTE, Rig.d(0), Rig.SHORT_PLACE), 4098,
                Rig.move(Rig.BYTE, Rig.d(0), Rig.SHORT_PLACE), 4099).with(0, -1).with(1, -1);
        rig.m.run(2);
        check.equal("level 7, asks no more, two bytes of 0", 0x07000000, rig.get(1));
        rig.step();
        check.equal("the upper half of the timer", 0xFEFF, rig.m.device(0));
        rig.step();
        check.equal("the lower half of the timer", 0xFEFE, rig.m.device(0));
        rig = new Rig(Rig.move(Rig.WORD, Rig.NUMBER, Rig.SHORT_PLACE), 0x8182, 4098,
                Rig.move(Rig.WORD, Rig.SHORT_PLACE, Rig.d(1)), 4098,
                Rig.move(Rig.BYTE, Rig.NUMBER, Rig.SHORT_PLACE), 0x13, 4098,
                Rig.move(Rig.BYTE, Rig.NUMBER, Rig.SHORT_PLACE), 0x00, 4099);
        rig.m.run(2);
        check.equal("the timer is read as it is before the end of the step", 0x8181, rig.get(1));
        rig.step();
        check.equal("only its upper half is written", 0x137F, rig.m.device(0));
        rig.step();
        check.equal("only its lower half is written", 0x12FF, rig.m.device(0));
    }

    private static void device(Check check) {
        Rig rig = new Rig();
        for (int what : new int[] {-1, 5, Integer.MIN_VALUE, Integer.MAX_VALUE}) {
            check.throwing("device(" + what + ")", IndexOutOfBoundsException.class, () -> rig.m.device(what));
        }
    }

    private static void guarded(Check check) {
        int read = Rig.move(Rig.BYTE, Rig.SHORT_PLACE, Rig.d(0));
        Rig rig = new Rig(read, 4096).user();
        rig.m.type(9);
        check.equal("not for the user", 2, rig.step());
        check.equal("nothing is read then", 1, rig.m.device(3));
        Rig behind = new Rig(Rig.move(Rig.LONG, Rig.SHORT_PLACE, Rig.d(0)), 4102);
        check.equal("its last bytes are open", 2, behind.step());
        Rig odd = new Rig(Rig.move(Rig.WORD, Rig.SHORT_PLACE, Rig.d(0)), 4097);
        check.equal("odd", 3, odd.step());
        Rig kept = new Rig(Rig.move(Rig.BYTE, Rig.SHORT_PLACE, Rig.SHORT_PLACE), 4096, Rig.OPEN_PLACE);
        kept.m.type(9);
        check.equal("the error comes behind the reading", 2, kept.step());
        check.equal("what was read stays so", 0, kept.m.device(3));
    }
}
