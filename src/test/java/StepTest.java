/** Promises 6 step, 7 run, 15 state. */
public final class StepTest {

    public static void main(String[] args) {
        Check check = new Check("StepTest");
        answers(check);
        halted(check);
        run(check);
        check.end();
    }

    private static void answers(Check check) {
        Rig rig = new Rig(Rig.NOTHING, 0x3700 + 7, Rig.STOP, 0x2000).write(Rig.handler(39), Rig.STOP, 0x2000);
        check.equal("done", 0, rig.step());
        check.equal("a call", 39, rig.step());
        check.equal("state: neither", 0, rig.m.state());
        check.equal("stop is done", 0, rig.step());
        check.equal("state: STOPPED", 1, rig.m.state());
        check.equal("nothing is done", SupervisorMachine.NONE, rig.step());
        rig.m.level(2);
        check.equal("an interrupt", 26, rig.step());
        check.equal("state: neither again", 0, rig.m.state());
    }

    private static void halted(Check check) {
        Rig rig = new Rig(Rig.move(Rig.WORD, Rig.d(0), Rig.SHORT_PLACE), Rig.OPEN_PLACE).with(15, 2);
        check.equal("the exception that halts it", 2, rig.step());
        check.equal("state: HALTED", 2, rig.m.state());
        String before = rig.all();
        check.throwing("step when HALTED", IllegalStateException.class, rig.m::step);
        check.equal("run when HALTED", 0, rig.m.run(9));
        check.that("nothing is changed", before.equals(rig.all()));
    }

    private static void run(Check check) {
        Rig rig = new Rig(Rig.NOTHING, Rig.NOTHING, Rig.NOTHING, Rig.STOP, 0x2700);
        check.equal("none", 0, rig.m.run(0));
        check.equal("PC after none", Rig.START, rig.pc());
        check.equal("two", 2, rig.m.run(2));
        check.equal("PC after two", Rig.START + 4, rig.pc());
        check.equal("STOPPED ones count", 50, rig.m.run(50));
        check.equal("PC when STOPPED", Rig.START + 10, rig.pc());
        String before = rig.all();
        for (int n : new int[] {-1, 51, Integer.MIN_VALUE, Integer.MAX_VALUE}) {
            check.throwing("run(" + n + ")", IllegalArgumentException.class, () -> rig.m.run(n));
        }
        check.that("nothing is changed", before.equals(rig.all()));
        Rig halting = new Rig(Rig.NOTHING, 0x3C00).with(15, 3);
        check.equal("up to the step that halts", 2, halting.m.run(10));
        check.throwing("wrong n when HALTED", IllegalArgumentException.class, () -> halting.m.run(51));
    }
}
