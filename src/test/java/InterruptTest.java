/** Promise 8 level; the level of now, the mask, the edge of seven, the timer, STOPPED. */
public final class InterruptTest {

    public static void main(String[] args) {
        Check check = new Check("InterruptTest");
        arguments(check);
        mask(check);
        seven(check);
        timer(check);
        timerTells(check);
        stoppedWithError(check);
        check.end();
    }

    private static void arguments(Check check) {
        Rig rig = new Rig(Rig.NOTHING).with(Rig.STATUS, 0x2000);
        rig.m.level(0);
        for (int level : new int[] {-1, 8, Integer.MIN_VALUE, Integer.MAX_VALUE}) {
            check.throwing("level(" + level + ")", IllegalArgumentException.class, () -> rig.m.level(level));
        }
        check.equal("none is set", 0, rig.step());
        for (int level = 1; level < 8; level++) {
            Rig one = new Rig(Rig.NOTHING).with(Rig.STATUS, 0x2000);
            one.m.level(level);
            check.equal("level " + level, 24 + level, one.step());
            check.equal("its handler", Rig.handler(24 + level), one.pc());
        }
    }

    private static void mask(Check check) {
        Rig rig = new Rig(Rig.NOTHING, Rig.NOTHING).user().with(Rig.STATUS, 0x831F);
        rig.m.level(3);
        check.equal("not above the mask, so the instruction, traced", 9, rig.step());
        rig = new Rig(Rig.NOTHING).user().with(Rig.STATUS, 0x831F);
        rig.m.level(4);
        check.equal("above", 28, rig.step());
        check.equal("S, no T, the mask is the level, flags stay", 0x241F, rig.get(Rig.STATUS));
        check.equal("PC of the next", Rig.START, rig.longAt(Rig.STACK - 4));
        check.equal("STATUS before", 0x831F, rig.word(Rig.STACK - 6));
        check.equal("supervisor's stack", Rig.STACK - 6, rig.get(15));
        check.equal("user's stack", Rig.USER_STACK, rig.get(Rig.OTHER));
        rig.write(Rig.handler(28), Rig.NOTHING);
        check.equal("the level stays set, but not above", 0, rig.step());
    }

    private static void seven(Check check) {
        Rig rig = new Rig(Rig.NOTHING, Rig.NOTHING);
        rig.write(Rig.handler(31), Rig.NOTHING, Rig.NOTHING, Rig.NOTHING, Rig.NOTHING, Rig.NOTHING);
        check.equal("no level", 0, rig.step());
        rig.m.level(7);
        check.equal("seven against the mask of seven", 31, rig.step());
        check.equal("not again", 0, rig.step());
        check.equal("nor later", 0, rig.step());
        rig.m.level(6);
        rig.m.level(7);
        check.equal("only beginnings of steps count", 0, rig.step());
        rig.m.level(6);
        check.equal("six is not above seven", 0, rig.step());
        rig.m.level(7);
        check.equal("it was not seven", 31, rig.step());
        rig.with(Rig.STATUS, 0x2600);
        check.equal("above the mask, though it was seven", 31, rig.step());
        rig.m.reset();
        check.equal("none before since reset", 31, rig.step());
    }

    private static void timer(Check check) {
        Rig rig = new Rig(
                Rig.move(Rig.BYTE, Rig.NUMBER, Rig.SHORT_PLACE), 0xFB, 4100,
                Rig.move(Rig.WORD, Rig.NUMBER, Rig.SHORT_PLACE), 3, 4098,
                Rig.NOTHING, Rig.NOTHING, Rig.NOTHING, Rig.NOTHING, Rig.NOTHING).with(Rig.STATUS, 0x2000);
        rig.step();
        check.equal("lowest three bits", 3, rig.m.device(1));
        rig.step();
        check.equal("one less behind the step that sets it", 2, rig.m.device(0));
        rig.step();
        check.equal("asks not yet", 0, rig.m.device(2));
        check.equal("not asking, no interrupt", 0, rig.step());
        check.equal("timer is 0", 0, rig.m.device(0));
        check.equal("asks", 1, rig.m.device(2));
        rig.m.level(2);
        check.equal("the greater one", 27, rig.step());
        check.equal("still asks", 1, rig.m.device(2));
        rig.m.level(5);
        check.equal("the greater one is the one that is set", 29, rig.step());
        check.equal("a timer of 0 stays", 0, rig.m.device(0));
    }

    private static void timerTells(Check check) {
        Rig rig = new Rig(
                Rig.move(Rig.LONG, Rig.NUMBER, Rig.SHORT_PLACE), 1, 0x0600, 4098,
                Rig.move(Rig.LONG, Rig.SHORT_PLACE, Rig.d(0)), 4098,
                Rig.move(Rig.BYTE, Rig.d(1), Rig.SHORT_PLACE), 4101,
                Rig.move(Rig.WORD, Rig.NUMBER, Rig.SHORT_PLACE), 1, 4098,
                0x3730);
        rig.step();
        check.equal("asks at once", 1, rig.m.device(2));
        rig.step();
        check.equal("timer, level, asks as a long", 0x0601, rig.get(0));
        rig.step();
        check.equal("written, it asks no more", 0, rig.m.device(2));
        check.equal("its level stays", 6, rig.m.device(1));
        rig.step();
        check.equal("asks again", 1, rig.m.device(2));
        rig.with(0, 0);
        check.equal("instruction 48", 0, rig.step());
        check.equal("level is 0", 0, rig.m.device(1));
        check.equal("asks no more", 0, rig.m.device(2));
    }

    private static void stoppedWithError(Check check) {
        Rig rig = new Rig(Rig.STOP, 0x2000);
        rig.step();
        rig.with(15, 0x501);
        rig.m.level(4);
        check.equal("the interrupt comes first", 28, rig.step());
        check.equal("its error cannot be pushed either", 2, rig.m.state());
        check.equal("registers as before", 0x501, rig.get(15));
        check.equal("PC as before", Rig.START + 4, rig.pc());
        check.equal("STATUS as before", 0x2000, rig.get(Rig.STATUS));
        check.equal("not counted", 0, rig.m.counted(28) + rig.m.counted(3));
    }
}
