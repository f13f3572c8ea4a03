/** The document's Terms, on which promises 6 and 8 rest: a STEP, at its edges. */
public final class StepEdgesTest {

    private static final String STEP = "Promise 6, 8, Terms, A STEP";
    private static final int TO_TIMER = Rig.move(Rig.LONG, Rig.NUMBER, Rig.SHORT_PLACE);

    public static void main(String[] args) {
        Check check = new Check("StepEdgesTest");
        check.sentence(STEP,
                "The LEVEL of now is the greater one of the one that is set and that of the timer, while it asks.",
                StepEdgesTest::greaterOne);
        check.sentence(STEP, "while it asks.", StepEdgesTest::whileItAsks);
        check.sentence(STEP, "If that is above the MASK", StepEdgesTest::aboveTheMask);
        check.sentence(STEP, "or is 7 and was not 7 at the beginning of the step before", StepEdgesTest::seven);
        check.sentence(STEP, "was not 7 at the beginning of the step before", StepEdgesTest::sevenOfTheTimer);
        check.sentence(STEP, "(or there was none since the latest reset())", StepEdgesTest::noneSinceReset);
        check.sentence(STEP, "the INTERRUPT is taken, which ends STOPPED", StepEdgesTest::endsStopped);
        check.sentence(STEP, "otherwise, if it is STOPPED, nothing is done", StepEdgesTest::stopped);
        check.sentence(STEP, "otherwise an INSTRUCTION is.", StepEdgesTest::instruction);
        check.sentence(STEP, "Behind each step the timer, if it is not 0, becomes 1 less", StepEdgesTest::oneLess);
        check.sentence(STEP, "if it is not 0", StepEdgesTest::timerOfZero);
        check.sentence(STEP, "and asks if it is 0 then.", StepEdgesTest::asks);
        check.end();
    }

    /** A machine whose timer asks with a level, the MASK being 7. */
    private static Rig asking(int level) {
        Rig rig = new Rig(TO_TIMER, 1, level << 8, 4098, Rig.NOTHING, Rig.NOTHING, Rig.NOTHING);
        rig.step();
        return rig;
    }

    private static void greaterOne(Check check) {
        for (int set = 0; set < 8; set++) {
            for (int level = 0; level < 7; level++) {
                Rig rig = asking(level).with(Rig.STATUS, 0x2000);
                rig.m.level(set);
                int due = Math.max(set, level);
                check.equal("set " + set + ", of the timer " + level, due == 0 ? 0 : 24 + due, rig.step());
            }
        }
    }

    private static void whileItAsks(Check check) {
        Rig not = new Rig(TO_TIMER, 3, 0x0500, 4098, Rig.NOTHING, Rig.NOTHING, Rig.NOTHING).with(Rig.STATUS, 0x2000);
        not.m.run(2);
        check.equal("not before it asks", 0, not.step());
        check.equal("then it does", 1, not.m.device(2));
        check.equal("at the beginning of the next step", 29, not.step());
        check.equal("the interrupt does not end it", 1, not.m.device(2));
        not.with(Rig.STATUS, 0x2000);
        check.equal("so it comes again", 29, not.step());
        Rig quiet = new Rig(TO_TIMER, 1, 0x0500, 4098, Rig.move(Rig.BYTE, Rig.d(0), Rig.SHORT_PLACE), 4101,
                Rig.NOTHING);
        quiet.m.run(2);
        quiet.with(Rig.STATUS, 0x2000);
        check.equal("when it asks no more, its level does not count", 0, quiet.step());
    }

    private static void aboveTheMask(Check check) {
        for (int mask = 0; mask < 8; mask++) {
            for (int level = 0; level < 7; level++) {
                Rig rig = new Rig(Rig.NOTHING).with(Rig.STATUS, 0x2000 | mask << 8);
                rig.m.level(level);
                check.equal("level " + level + ", MASK " + mask, level > mask ? 24 + level : 0, rig.step());
            }
            Rig user = new Rig(Rig.NOTHING).user().with(Rig.STATUS, mask << 8 | 0x1F);
            user.m.level(6);
            check.equal("of the user, MASK " + mask, 6 > mask ? 30 : 0, user.step());
        }
        Rig seven = new Rig(Rig.NOTHING).with(Rig.STATUS, 0x2600);
        seven.m.level(7);
        check.equal("7 is above 6", 31, seven.step());
        seven.with(Rig.STATUS, 0x2600);
        check.equal("above it is again, though it was 7 before", 31, seven.step());
    }

    private static Rig nothings() {
        Rig rig = new Rig(Rig.NOTHING, Rig.NOTHING, Rig.NOTHING);
        return rig.write(Rig.handler(31), Rig.NOTHING, Rig.NOTHING, Rig.NOTHING, Rig.NOTHING, Rig.NOTHING,
                Rig.NOTHING, Rig.NOTHING, Rig.NOTHING);
    }

    private static void seven(Check check) {
        Rig rig = nothings();
        check.equal("no level", 0, rig.step());
        rig.m.level(7);
        check.equal("7 against a MASK of 7", 31, rig.step());
        check.equal("not again", 0, rig.step());
        check.equal("nor later", 0, rig.step());
        rig.m.level(6);
        rig.m.level(7);
        check.equal("only beginnings of steps count", 0, rig.step());
        rig.m.level(6);
        check.equal("6 is not above 7", 0, rig.step());
        rig.m.level(7);
        check.equal("it was not 7", 31, rig.step());
        rig.m.level(0);
        check.equal("0", 0, rig.step());
        rig.m.level(7);
        check.equal("it was 0", 31, rig.step());
        Rig stopped = new Rig(Rig.STOP, 0x2700);
        stopped.step();
        stopped.m.level(7);
        check.equal("when STOPPED", 31, stopped.step());
        stopped.write(Rig.handler(31), Rig.STOP, 0x2700);
        stopped.step();
        check.equal("not again, when STOPPED again", SupervisorMachine.NONE, stopped.step());
    }

    private static void sevenOfTheTimer(Check check) {
        Rig rig = nothings().write(Rig.START, TO_TIMER, 1, 0x0700, 4098, Rig.NOTHING, Rig.NOTHING);
        check.equal("before it asks", 0, rig.step());
        check.equal("it asks with 7", 31, rig.step());
        check.equal("not again", 0, rig.step());
        rig.m.level(7);
        check.equal("7 that is set is no other 7", 0, rig.step());
        Rig other = nothings().write(Rig.START, TO_TIMER, 1, 0x0700, 4098);
        other.m.level(7);
        check.equal("7 that is set", 31, other.step());
        other.with(Rig.PC, Rig.START);
        check.equal("it was taken", 0, other.step());
        check.equal("the timer asks with 7, too", 1, other.m.device(2));
        other.m.level(0);
        other.with(Rig.PC, Rig.handler(31));
        check.equal("but it was 7 before", 0, other.step());
    }

    private static void noneSinceReset(Check check) {
        Rig rig = nothings();
        rig.m.level(7);
        check.equal("the first step", 31, rig.step());
        check.equal("not the second one", 0, rig.step());
        rig.m.reset();
        check.equal("the first step since the latest reset()", 31, rig.step());
        rig.m.reset();
        rig.m.reset();
        check.equal("and again", 31, rig.step());
        check.equal("not the second one, either", 0, rig.step());
        rig.m.level(6);
        rig.m.reset();
        check.equal("6 is not above 7", 0, rig.step());
    }

    private static void endsStopped(Check check) {
        Rig rig = new Rig(Rig.STOP, 0x2300, Rig.NOTHING);
        rig.step();
        rig.m.level(3);
        check.equal("not above the MASK", SupervisorMachine.NONE, rig.step());
        check.equal("still STOPPED", 1, rig.m.state());
        rig.m.level(4);
        check.equal("above it", 28, rig.step());
        check.equal("no more STOPPED", 0, rig.m.state());
        check.equal("the PC behind STOP is pushed", Rig.START + 4, rig.longAt(Rig.STACK - 4));
        check.equal("with the STATUS of STOP", 0x2300, rig.word(Rig.STACK - 6));
        rig.m.level(0);
        check.equal("it goes on", 0, rig.write(Rig.handler(28), Rig.NOTHING, 0x3FFF).step());
        check.equal("and is not STOPPED again", 0, rig.m.state());
        check.equal("so it goes on still", 4, rig.step());
        Rig user = new Rig(Rig.STOP, 0x0000).with(Rig.OTHER, Rig.USER_STACK);
        user.step();
        user.m.level(1);
        check.equal("out of the user's state", 25, user.step());
        check.equal("neither", 0, user.m.state());
        check.equal("on the supervisor's stack", Rig.STACK - 6, user.get(15));
        Rig halting = new Rig(Rig.STOP, 0x2000);
        halting.step();
        halting.m.level(4);
        halting.with(15, 0x501);
        check.equal("an interrupt that cannot be pushed", 28, halting.step());
        check.equal("HALTED", 2, halting.m.state());
        check.equal("PC as before", Rig.START + 4, halting.pc());
        check.equal("STATUS as before", 0x2000, halting.get(Rig.STATUS));
    }

    private static void stopped(Check check) {
        Rig rig = new Rig(Rig.STOP, 0xA700, Rig.op(14, 0, 0, 0, 1));
        rig.step();
        for (int i = 0; i < 3; i++) {
            check.equal("nothing", SupervisorMachine.NONE, rig.step());
            check.equal("PC", Rig.START + 4, rig.pc());
            check.equal("D0", 0, rig.get(0));
            check.equal("no trace of it", 0, rig.m.counted(9));
        }
        rig.with(Rig.PC, 1).with(Rig.STATUS, 0x2000);
        check.equal("registers that are set do not end it", SupervisorMachine.NONE, rig.step());
        check.equal("nor is there an error", 1, rig.get(Rig.PC));
    }

    private static void instruction(Check check) {
        Rig rig = new Rig(Rig.op(14, 0, 0, 0, 1), Rig.op(14, 0, 0, 0, 2));
        check.equal("one", 0, rig.step());
        check.equal("only one", 1, rig.get(0));
        Rig interrupted = new Rig(Rig.op(14, 0, 0, 0, 1)).with(Rig.STATUS, 0x2000);
        interrupted.write(Rig.handler(25), Rig.op(14, 0, 0, 0, 2));
        interrupted.m.level(1);
        interrupted.step();
        check.equal("none in the step of an interrupt", 0, interrupted.get(0));
        interrupted.step();
        check.equal("the first one of the handler in the next", 2, interrupted.get(0));
    }

    private static void oneLess(Check check) {
        Rig rig = new Rig(TO_TIMER, 100, 0, 4098, Rig.NOTHING, 0x3700, 0x3FFF).with(Rig.STATUS, 0x2000);
        rig.step();
        check.equal("behind the step that sets it", 99, rig.m.device(0));
        rig.step();
        check.equal("behind an instruction", 98, rig.m.device(0));
        rig.step();
        check.equal("behind an exception", 97, rig.m.device(0));
        rig.m.level(1);
        rig.step();
        check.equal("behind an interrupt", 96, rig.m.device(0));
        rig.write(Rig.handler(25), Rig.STOP, 0x2700).step();
        rig.step();
        check.equal("behind a step that does nothing", 94, rig.m.device(0));
        rig.m.run(10);
        check.equal("behind each of ten", 84, rig.m.device(0));
        rig.m.run(0);
        check.equal("not without a step", 84, rig.m.device(0));
        rig.m.level(7);
        rig.with(15, 1).step();
        check.equal("HALTED", 2, rig.m.state());
        check.equal("behind the step that halts", 83, rig.m.device(0));
        rig.m.run(5);
        check.equal("not when HALTED", 83, rig.m.device(0));
        Rig greatest = new Rig(TO_TIMER, 0xFFFF, 0, 4098);
        greatest.step();
        check.equal("from the greatest", 0xFFFE, greatest.m.device(0));
    }

    private static void timerOfZero(Check check) {
        Rig rig = new Rig(Rig.NOTHING, Rig.NOTHING, Rig.NOTHING);
        rig.m.run(3);
        check.equal("it stays 0, not 65535", 0, rig.m.device(0));
        check.equal("and does not ask", 0, rig.m.device(2));
        Rig again = asking(0);
        again.m.run(2);
        check.equal("it stays 0 when it has come there", 0, again.m.device(0));
        check.equal("and asks still", 1, again.m.device(2));
    }

    private static void asks(Check check) {
        Rig rig = new Rig(TO_TIMER, 3, 0x0100, 4098, Rig.NOTHING, Rig.NOTHING, Rig.NOTHING);
        int[][] due = {{2, 0}, {1, 0}, {0, 1}, {0, 1}};
        for (int[] row : due) {
            rig.step();
            check.equal("timer", row[0], rig.m.device(0));
            check.equal("asks", row[1], rig.m.device(2));
        }
        Rig anew = asking(2);
        anew.write(Rig.START + 8, Rig.move(Rig.WORD, Rig.NUMBER, Rig.SHORT_PLACE), 5, 4098, Rig.NOTHING);
        anew.m.run(2);
        check.equal("it counts again", 3, anew.m.device(0));
        check.equal("and asks still", 1, anew.m.device(2));
        Rig quiet = new Rig(TO_TIMER, 2, 0x0500, 4098, 0x3730, Rig.NOTHING).with(Rig.STATUS, 0x2000);
        quiet.m.run(3);
        check.equal("made 0 by instruction 48, it does not ask", 0, quiet.m.device(2));
    }
}
