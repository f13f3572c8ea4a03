import java.util.function.Consumer;
import java.util.function.Supplier;

/**
 * Calls that must change nothing: behind one of them all answers are those of a twin that was not called so.
 * An object is used for at most 512 calls, so the questions are dealt out to several pairs of twins.
 */
final class Refusal {

    private static final int ASKED_OF_ONE = 350;
    private static final int QUESTIONS = 138 + 2048;
    private static final int STEPS = 30;

    private Refusal() {
    }

    /** The call must throw this and change nothing, in whatever state the machine is. */
    static void throwing(Check check, String what, Class<? extends RuntimeException> due,
            Consumer<SupervisorMachine> call) {
        for (Situation situation : Situation.values()) {
            throwing(check, what + " when " + situation, due, call, situation::machine);
        }
    }

    static void throwing(Check check, String what, Class<? extends RuntimeException> due,
            Consumer<SupervisorMachine> call, Supplier<SupervisorMachine> maker) {
        changesNothing(check, what, m -> check.throwing(what, due, () -> call.accept(m)), maker);
    }

    /** The call must change nothing, in whatever state the machine is. */
    static void changesNothing(Check check, String what, Consumer<SupervisorMachine> call) {
        for (Situation situation : Situation.values()) {
            changesNothing(check, what + " when " + situation, call, situation::machine);
        }
    }

    static void changesNothing(Check check, String what, Consumer<SupervisorMachine> call,
            Supplier<SupervisorMachine> maker) {
        for (int from = 0; from < QUESTIONS; from += ASKED_OF_ONE) {
            SupervisorMachine called = maker.get();
            SupervisorMachine twin = maker.get();
            call.accept(called);
            for (int q = from; q < from + ASKED_OF_ONE && q < QUESTIONS; q++) {
                check.equal(what + ", then question " + q, answer(twin, q), answer(called, q));
            }
        }
        goesOnAlike(check, what, call, maker);
    }

    // What cannot be asked, the fence and the level among it, shows in what is done next.
    private static void goesOnAlike(Check check, String what, Consumer<SupervisorMachine> call,
            Supplier<SupervisorMachine> maker) {
        SupervisorMachine called = maker.get();
        SupervisorMachine twin = maker.get();
        call.accept(called);
        for (int i = 0; i < STEPS; i++) {
            check.equal(what + ", then step " + i, stepped(twin), stepped(called));
            check.equal(what + ", then PC of step " + i, twin.get(17), called.get(17));
        }
        for (int q = 0; q < 138; q++) {
            check.equal(what + ", then steps and question " + q, answer(twin, q), answer(called, q));
        }
        for (int at = 0; at < 32; at++) {
            check.equal(what + ", then steps and memory " + at, twin.memory(0x6F0 + at), called.memory(0x6F0 + at));
        }
    }

    private static int stepped(SupervisorMachine m) {
        try {
            return m.step();
        } catch (IllegalStateException e) {
            return -2;
        }
    }

    private static int answer(SupervisorMachine m, int q) {
        if (q < 19) {
            return m.get(q);
        }
        if (q < 24) {
            return m.device(q - 19);
        }
        if (q < 25) {
            return m.state();
        }
        if (q < 90) {
            return m.said(q - 25);
        }
        if (q < 138) {
            return m.counted(q - 90);
        }
        return m.memory(q - 138);
    }
}
