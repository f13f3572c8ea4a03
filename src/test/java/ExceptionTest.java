/** Exceptions of the three groups, trace, privilege, errors in exceptions; promise 16 counted. */
public final class ExceptionTest {

    public static void main(String[] args) {
        Check check = new Check("ExceptionTest");
        calls(check);
        notThere(check);
        privileged(check);
        trace(check);
        traceBehindCalls(check);
        traceAndStop(check);
        errorInIllegal(check);
        errorInCall(check);
        errorInInterrupt(check);
        errorInTrace(check);
        halting(check);
        counted(check);
        check.end();
    }

    private static void calls(Check check) {
        for (int k = 0; k < 16; k++) {
            Rig rig = new Rig(0x3700 + k).user().with(Rig.STATUS, 0x0515);
            check.equal("call " + k, 32 + k, rig.step());
            check.equal("handler", Rig.handler(32 + k), rig.pc());
            check.equal("PC of the next", Rig.START + 2, rig.longAt(Rig.STACK - 4));
            check.equal("STATUS before", 0x0515, rig.word(Rig.STACK - 6));
            check.equal("six bytes", Rig.STACK - 6, rig.get(15));
            check.equal("the mask and flags stay", 0x2515, rig.get(Rig.STATUS));
            check.equal("counted", 1, rig.m.counted(32 + k));
        }
    }

    private static void notThere(Check check) {
        int[][] rows = {{0xA000, 10}, {0xAFFF, 10}, {0xF000, 11}, {0xFFFF, 11}, {0x3734, 4}, {0x3FFF, 4}};
        for (int[] row : rows) {
            Rig rig = new Rig(row[0]).with(Rig.STATUS, 0xA700);
            check.equal("word " + row[0], row[1], rig.step());
            check.equal("PC of the instruction", Rig.START, rig.longAt(Rig.STACK - 4));
            check.equal("STATUS before", 0xA700, rig.word(Rig.STACK - 6));
            check.equal("no trace", Rig.handler(row[1]), rig.pc());
            check.equal("six bytes", Rig.STACK - 6, rig.get(15));
        }
    }

    private static void privileged(Check check) {
        int[] words = {Rig.three(11, Rig.d(0)), 0x3720, 0x3727, 0x3728, 0x372F, 0x3730, 0x3732, 0x3733,
            0xC07C, 0xC27C, 0xCA7C};
        for (int word : words) {
            Rig rig = new Rig(word, 0x2700).with(0, 0x2700).with(15, Rig.STACK).write(Rig.STACK, 0x2700, 0, Rig.START);
            check.equal("of the supervisor " + word, 0, rig.step());
            Rig user = new Rig(word, 0x2700).user();
            check.equal("of the user " + word, 8, user.step());
            check.equal("PC of the instruction", Rig.START, user.longAt(Rig.STACK - 4));
            check.equal("STATUS before", 0, user.word(Rig.STACK - 6));
            check.equal("nothing done", Rig.USER_STACK, user.get(Rig.OTHER));
        }
        int[] open = {Rig.three(3, Rig.d(0)), Rig.three(7, Rig.d(0)), 0xC03C, 0xC23C, 0xCA3C, Rig.NOTHING};
        for (int word : open) {
            check.equal("open to the user " + word, 0, new Rig(word, 0).user().step());
        }
        check.equal("illegal comes first", 4, new Rig(Rig.three(11, Rig.a(0))).user().step());
    }

    private static void trace(Check check) {
        Rig rig = new Rig(Rig.op(14, 3, 0, 0, 0x3F)).user().with(Rig.STATUS, 0x8000);
        check.equal("done, then traced", 9, rig.step());
        check.equal("done", 0x3F, rig.get(3));
        check.equal("PC of the next", Rig.START + 2, rig.longAt(Rig.STACK - 4));
        check.equal("STATUS before", 0x8000, rig.word(Rig.STACK - 6));
        check.equal("T is 0, S 1", 0x2000, rig.get(Rig.STATUS));
        rig = new Rig(0xC07C, 0x8000);
        check.equal("T was 0 before", 0, rig.step());
        check.equal("T is 1 now", 0xA700, rig.get(Rig.STATUS));
        rig = new Rig(0xC27C, 0x7FFF).with(Rig.STATUS, 0xA700);
        check.equal("T was 1 before", 9, rig.step());
        check.equal("STATUS before the trace", 0x2700, rig.word(Rig.STACK - 6));
        rig = new Rig(Rig.move(Rig.WORD, Rig.at(0), Rig.d(0))).with(8, 1).with(Rig.STATUS, 0xA700);
        check.equal("an error has no trace", 3, rig.step());
        check.equal("handler of the error", Rig.handler(3), rig.pc());
        rig = new Rig(Rig.NOTHING).with(Rig.STATUS, 0xA000);
        rig.m.level(1);
        check.equal("nor has an interrupt", 25, rig.step());
        check.equal("handler of the interrupt", Rig.handler(25), rig.pc());
    }

    private static void traceBehindCalls(Check check) {
        int[][] rows = {
            {0x3705, 37}, {Rig.op(8, 0, 0, 3, Rig.d(1)), 5}, {Rig.op(14, 0, 1, 1, Rig.d(1)), 6}, {0x3736, 7},
        };
        for (int[] row : rows) {
            Rig rig = new Rig(row[0]).with(0, 0x7FFF).with(Rig.STATUS, 0xA702);
            check.equal("the one of group 2 comes first", row[1], rig.step());
            check.equal("PC is that of the trace", Rig.handler(9), rig.pc());
            check.equal("two frames", Rig.STACK - 12, rig.get(15));
            check.equal("the trace pushes the other's handler", Rig.handler(row[1]), rig.longAt(Rig.STACK - 10));
            check.equal("and a STATUS without T", 0x2702, rig.word(Rig.STACK - 12));
            check.equal("the first pushes T", 0xA702, rig.word(Rig.STACK - 6));
            check.equal("both counted", 2, rig.m.counted(row[1]) + rig.m.counted(9));
        }
    }

    private static void traceAndStop(Check check) {
        Rig rig = new Rig(Rig.STOP, 0x2105).with(Rig.STATUS, 0xA700);
        check.equal("traced", 9, rig.step());
        check.equal("not STOPPED", 0, rig.m.state());
        check.equal("but the STATUS was changed", 0x2105, rig.word(Rig.STACK - 6));
        rig = new Rig(Rig.STOP, 0xA105);
        check.equal("T only now", 0, rig.step());
        check.equal("STOPPED", 1, rig.m.state());
        check.equal("no trace of nothing", SupervisorMachine.NONE, rig.step());
        rig = new Rig(Rig.STOP, 0x0000).with(Rig.OTHER, Rig.USER_STACK);
        check.equal("to the user's state", 0, rig.step());
        check.equal("its A7", Rig.USER_STACK, rig.get(15));
        check.equal("STOPPED there", 1, rig.m.state());
    }

    // A frame that cannot be pushed fails again for the error's own exception, since that one begins alike.
    private static void errorInIllegal(Check check) {
        Rig rig = new Rig(0x3FFF).with(15, 0x501).flags(Rig.N);
        check.equal("illegal comes first", 4, rig.step());
        check.equal("HALTED", 2, rig.m.state());
        check.equal("PC", Rig.START, rig.pc());
        check.equal("A7", 0x501, rig.get(15));
        check.equal("STATUS", 0x2708, rig.get(Rig.STATUS));
        rig = new Rig(0x3FFF).with(15, 0x4000);
        check.equal("an open stack", 4, rig.step());
        check.equal("HALTED, too", 2, rig.m.state());
    }

    private static void errorInCall(Check check) {
        Rig rig = new Rig(0x3701).with(15, 4104).with(Rig.STATUS, 0xA700);
        check.equal("six bytes fit into the devices", 33, rig.step());
        check.equal("those of the trace do not", 2, rig.m.state());
        check.equal("counted the call", 1, rig.m.counted(33));
        check.equal("not the trace", 0, rig.m.counted(9));
        check.equal("registers as before the trace: PC", Rig.handler(33), rig.pc());
        check.equal("registers as before the trace: A7", 4098, rig.get(15));
        rig = new Rig(0x3701).with(15, 4100).with(Rig.PC, 0x41000000 | Rig.START);
        check.equal("the long PC fits, the STATUS does not", 33, rig.step());
        check.equal("HALTED", 2, rig.m.state());
        check.equal("the PC was pushed for the call, and again for the error", 2, rig.m.device(4));
        check.equal("its first byte was said", 0x41, rig.m.said(1));
        check.equal("PC of the next", 0x41000000 | Rig.START + 2, rig.pc());
        check.equal("the timer goes on behind the step that halts", Rig.START + 1, rig.m.device(0));
    }

    private static void errorInInterrupt(Check check) {
        Rig rig = new Rig(Rig.NOTHING).with(15, 0x404).with(Rig.STATUS, 0x2000);
        rig.m.fence(0x400);
        rig.m.level(3);
        check.equal("the interrupt comes first", 27, rig.step());
        check.equal("its second push is below the fence, all of the error's, too", 2, rig.m.state());
        check.equal("A7 as before", 0x404, rig.get(15));
        check.equal("the mask as before", 0x2000, rig.get(Rig.STATUS));
        check.equal("what was pushed stays", Rig.START, rig.longAt(0x400));
    }

    private static void errorInTrace(Check check) {
        Rig rig = new Rig(Rig.op(14, 0, 0, 0, 1)).with(15, 0x405).with(Rig.STATUS, 0xA700);
        check.equal("the trace comes first", 9, rig.step());
        check.equal("HALTED", 2, rig.m.state());
        check.equal("the instruction was done", 1, rig.get(0));
        check.equal("PC of the next", Rig.START + 2, rig.pc());
        check.equal("STATUS as before the trace", 0xA700, rig.get(Rig.STATUS));
    }

    private static void halting(Check check) {
        Rig rig = new Rig(Rig.move(Rig.WORD, Rig.d(0), Rig.behind(0))).with(8, 0x301).with(15, 0x408);
        rig.m.fence(0x400);
        check.equal("address error", 3, rig.step());
        check.equal("HALTED", 2, rig.m.state());
        check.equal("not counted", 0, rig.m.counted(3) + rig.m.counted(2));
        check.equal("A7 as before", 0x408, rig.get(15));
        check.equal("PC as before", Rig.START, rig.pc());
        check.equal("the PC was pushed", Rig.START, rig.longAt(0x404));
        check.equal("the STATUS was pushed", 0x2700, rig.word(0x402));
        check.equal("the first word was pushed", Rig.move(Rig.WORD, Rig.d(0), Rig.behind(0)), rig.word(0x400));
        check.equal("the address was not", 0, rig.longAt(0x3FC));
    }

    private static void counted(Check check) {
        Rig rig = new Rig(0x3700).write(Rig.handler(32), 0x3700).with(Rig.STATUS, 0x2000);
        check.equal("none yet", 0, rig.m.counted(32));
        rig.m.run(4);
        check.equal("four", 4, rig.m.counted(32));
        rig.m.reset();
        check.equal("since the beginning", 4, rig.m.counted(32));
        for (int vector : new int[] {0, 1, 12, 24, 48, -1, Integer.MIN_VALUE, Integer.MAX_VALUE}) {
            check.equal("counted(" + vector + ")", 0, rig.m.counted(vector));
        }
        rig.m.level(1);
        rig.with(Rig.STATUS, 0x2000);
        rig.step();
        check.equal("an interrupt", 1, rig.m.counted(25));
    }
}
