/** Promises 6 step, 7 run, 15 state: each sentence with a test of its own. */
public final class StepTest {

    private static final Class<IllegalStateException> STATE = IllegalStateException.class;

    public static void main(String[] args) {
        Check check = new Check("StepTest");
        check.sentence("Promise 6", "0 when an instruction was done without an exception", StepTest::done);
        check.sentence("Promise 6", "NONE when nothing was done", StepTest::nothingDone);
        check.sentence("Promise 6", "else the vector of the exception that came first in it.", StepTest::firstOne);
        check.sentence("Promise 6", "IllegalStateException when HALTED.", StepTest::halted);
        check.sentence("Promise 7", "n steps, or less, until it is HALTED: how many.", StepTest::howMany);
        check.sentence("Promise 7", "n steps, or less, until it is HALTED: how many.", StepTest::untilHalted);
        check.sentence("Promise 7", "IllegalArgumentException when n is not 0 .. 50.", StepTest::wrongCount);
        check.sentence("Promise 15", "0 neither, 1 STOPPED, 2 HALTED.", StepTest::state);
        check.end();
    }

    private static void done(Check check) {
        Rig rig = new Rig(Rig.NOTHING, Rig.STOP, 0x2700);
        check.equal("nothing but the PC", 0, rig.step());
        check.equal("PC", Rig.START + 2, rig.pc());
        check.equal("to stop is an instruction, too", 0, rig.step());
        int[][] exceptions = {{0x3700, 32}, {0x3FFF, 4}, {0xA000, 10}, {Rig.op(8, 0, 0, 3, Rig.d(1)), 5}};
        for (int[] row : exceptions) {
            Rig behind = new Rig(row[0]).write(Rig.handler(row[1]), Rig.NOTHING);
            check.equal("an exception", row[1], behind.step());
            check.equal("none in the instruction behind it", 0, behind.step());
        }
        Rig error = new Rig().with(Rig.PC, 3000).write(Rig.handler(2), Rig.NOTHING);
        check.equal("an error", 2, error.step());
        check.equal("none in the instruction behind it, either", 0, error.step());
    }

    private static void nothingDone(Check check) {
        Rig rig = new Rig(Rig.STOP, 0x2700, Rig.NOTHING);
        rig.step();
        check.equal("STOPPED", SupervisorMachine.NONE, rig.step());
        check.equal("PC stays", Rig.START + 4, rig.pc());
        check.equal("still STOPPED", SupervisorMachine.NONE, rig.step());
    }

    private static void firstOne(Check check) {
        check.equal("a call", 39, new Rig(0x3707).step());
        check.equal("a call, then the trace", 39, new Rig(0x3707).with(Rig.STATUS, 0xA700).step());
        check.equal("the trace alone", 9, new Rig(Rig.NOTHING).with(Rig.STATUS, 0xA700).step());
        Rig interrupted = new Rig(Rig.NOTHING).with(Rig.STATUS, 0x2000);
        interrupted.m.level(2);
        check.equal("an interrupt", 26, interrupted.step());
        check.equal("a call whose frame cannot be pushed", 39, new Rig(0x3707).with(15, 1).step());
        check.equal("an illegal one whose frame cannot be pushed", 4, new Rig(0x3FFF).with(15, 3000).step());
        check.equal("an error whose frame cannot be pushed", 2, new Rig().with(Rig.PC, 3000).with(15, 1).step());
    }

    private static void halted(Check check) {
        Rig rig = new Rig(Rig.move(Rig.WORD, Rig.d(0), Rig.SHORT_PLACE), Rig.OPEN_PLACE).with(15, 2);
        check.equal("the step that halts is answered", 2, rig.step());
        check.throwing("the next one", STATE, rig.m::step);
        check.throwing("and all others", STATE, rig.m::step);
        Refusal.throwing(check, "step", STATE, SupervisorMachine::step, Situation.HALTED::machine);
        Refusal.throwing(check, "step of a new one", STATE, SupervisorMachine::step, Situation.NEW::machine);
    }

    private static void howMany(Check check) {
        Rig rig = new Rig(Rig.NOTHING, Rig.NOTHING, Rig.NOTHING, Rig.STOP, 0x2700);
        check.equal("none", 0, rig.m.run(0));
        check.equal("PC after none", Rig.START, rig.pc());
        check.equal("one", 1, rig.m.run(1));
        check.equal("PC after one", Rig.START + 2, rig.pc());
        check.equal("two more", 2, rig.m.run(2));
        check.equal("PC after them", Rig.START + 6, rig.pc());
        check.equal("steps that do nothing count", 50, rig.m.run(50));
        check.equal("PC when STOPPED", Rig.START + 10, rig.pc());
        Rig counting = new Rig(Rig.op(9, 1, 0, Rig.LONG, Rig.d(0)), Rig.branch(0, -4));
        check.equal("fifty", 50, counting.m.run(50));
        check.equal("they were done", 25, counting.get(0));
        check.equal("forty-nine", 49, counting.m.run(49));
        check.equal("they were done, too", 50, counting.get(0));
        Refusal.changesNothing(check, "run(0)", m -> check.equal("run(0)", 0, m.run(0)));
    }

    private static void untilHalted(Check check) {
        int[][] rows = {{1, 1}, {2, 2}, {3, 3}, {4, 3}, {50, 3}};
        for (int[] row : rows) {
            Rig rig = new Rig(Rig.NOTHING, Rig.NOTHING, 0x3C00).with(15, 3);
            check.equal("up to the step that halts, of " + row[0], row[1], rig.m.run(row[0]));
            check.equal("state", row[1] == 3 ? 2 : 0, rig.m.state());
        }
        for (Situation situation : new Situation[] {Situation.NEW, Situation.HALTED}) {
            Refusal.changesNothing(check, "run when HALTED", m -> check.equal("run", 0, m.run(50)), situation::machine);
        }
    }

    private static void wrongCount(Check check) {
        for (int n : new int[] {-1, 51, 52, 306, Integer.MIN_VALUE, Integer.MAX_VALUE}) {
            Refusal.throwing(check, "run(" + n + ")", IllegalArgumentException.class, m -> m.run(n));
        }
        check.equal("50 is none of them", 50, Situation.READY.machine().run(50));
    }

    private static void state(Check check) {
        int[] due = {2, 0, 0, 1, 2};
        for (Situation situation : Situation.values()) {
            check.equal("when " + situation, due[situation.ordinal()], situation.machine().state());
        }
        Rig rig = new Rig(Rig.STOP, 0x2000, Rig.NOTHING);
        check.equal("before STOP", 0, rig.m.state());
        rig.step();
        check.equal("STOPPED", 1, rig.m.state());
        rig.m.level(2);
        check.equal("a level that is set does not end it yet", 1, rig.m.state());
        rig.step();
        check.equal("an interrupt ends it", 0, rig.m.state());
        rig.with(Rig.PC, 1).with(15, 1).step();
        check.equal("HALTED", 2, rig.m.state());
        rig.with(Rig.PC, Rig.START).with(15, Rig.STACK).with(Rig.STATUS, 0x2700);
        check.equal("registers that are set do not end that", 2, rig.m.state());
        Refusal.changesNothing(check, "state()", SupervisorMachine::state);
    }
}
