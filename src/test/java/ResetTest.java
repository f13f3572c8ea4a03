/** Promise 5: reset. */
public final class ResetTest {

    public static void main(String[] args) {
        Check check = new Check("ResetTest");
        ordinary(check);
        fromUser(check);
        timerAndLevel(check);
        fromStoppedAndHalted(check);
        check.end();
    }

    private static void ordinary(Check check) {
        Rig rig = new Rig();
        rig.with(0, 11).with(8, 22).with(Rig.OTHER, 33).with(Rig.STATUS, 0xA01F);
        rig.m.type(5);
        rig.m.fill(0, 4, 0x8765432112345679L);
        rig.m.reset();
        check.equal("A7 is the long at 0", 0x87654321, rig.get(15));
        check.equal("PC is the long at 4, odd too", 0x12345679, rig.pc());
        check.equal("STATUS", 0x2700, rig.get(Rig.STATUS));
        check.equal("D0 stays", 11, rig.get(0));
        check.equal("A0 stays", 22, rig.get(8));
        check.equal("the OTHER stays", 33, rig.get(Rig.OTHER));
        check.equal("what is typed stays", 1, rig.m.device(3));
        check.equal("neither", 0, rig.m.state());
    }

    private static void fromUser(Check check) {
        Rig rig = new Rig().user();
        check.equal("A7 of the user", Rig.USER_STACK, rig.get(15));
        check.equal("the OTHER of the user", Rig.STACK, rig.get(Rig.OTHER));
        rig.m.reset();
        check.equal("the user's A7 becomes the OTHER", Rig.USER_STACK, rig.get(Rig.OTHER));
        check.equal("A7", Rig.STACK, rig.get(15));
    }

    private static void timerAndLevel(Check check) {
        Rig rig = new Rig(
                Rig.move(Rig.LONG, Rig.NUMBER, Rig.SHORT_PLACE), 0x4100, 0x0001, 4096,
                Rig.move(Rig.BYTE, Rig.NUMBER, Rig.SHORT_PLACE), 5, 4100,
                Rig.move(Rig.WORD, Rig.NUMBER, Rig.SHORT_PLACE), 9, 4098);
        rig.m.fence(0x40);
        rig.m.run(3);
        check.equal("timer", 8, rig.m.device(0));
        check.equal("its level", 5, rig.m.device(1));
        check.equal("asks", 1, rig.m.device(2));
        check.equal("said", 0x41, rig.m.said(0));
        rig.m.level(7);
        check.equal("seven is taken", 31, rig.step());
        check.equal("and not again", 0, rig.write(Rig.handler(31), Rig.NOTHING).step());
        rig.m.reset();
        check.equal("timer after reset", 0, rig.m.device(0));
        check.equal("its level after reset", 0, rig.m.device(1));
        check.equal("asks no more", 0, rig.m.device(2));
        check.equal("what was said stays", 0x41, rig.m.said(0));
        check.equal("counted stays", 1, rig.m.counted(31));
        check.equal("the level stays, and there was no step before", 31, rig.step());
        rig.m.level(0);
        rig.write(Rig.handler(31), Rig.move(Rig.BYTE, Rig.d(0), Rig.SHORT_PLACE), 0x3F);
        check.equal("the fence stays", 2, rig.step());
    }

    private static void fromStoppedAndHalted(Check check) {
        Rig rig = new Rig(Rig.STOP, 0x2700);
        rig.step();
        check.equal("STOPPED", 1, rig.m.state());
        rig.m.reset();
        check.equal("no more STOPPED", 0, rig.m.state());
        rig.with(15, 1).with(Rig.PC, 1).step();
        check.equal("HALTED", 2, rig.m.state());
        rig.m.reset();
        check.equal("no more HALTED", 0, rig.m.state());
        check.equal("it goes on", 0, rig.step());
    }
}
