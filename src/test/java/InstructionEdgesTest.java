/** The document's Terms, on which promise 6 rests: AN INSTRUCTION, at its edges. */
public final class InstructionEdgesTest {

    private static final String INSTRUCTION = "Promise 6, Terms, AN INSTRUCTION";

    public static void main(String[] args) {
        Check check = new Check("InstructionEdgesTest");
        check.sentence(INSTRUCTION,
                "all its words are read by accesses of words, after each of which the PC grows by 2.",
                InstructionEdgesTest::words);
        check.sentence(INSTRUCTION, "It is ILLEGAL or not by its first word alone",
                InstructionEdgesTest::firstWordAlone);
        check.sentence(INSTRUCTION, "then PRIVILEGED or not, if S is 0", InstructionEdgesTest::privileged);
        check.sentence(INSTRUCTION, "in both cases it has an exception and does nothing.",
                InstructionEdgesTest::doesNothing);
        check.sentence(INSTRUCTION,
                "If an access in it is an error, all registers (PC, STATUS, OTHER too) are as before the "
                + "instruction",
                InstructionEdgesTest::registersAsBefore);
        check.sentence(INSTRUCTION, "while what was written, said or read from devices stays so",
                InstructionEdgesTest::whatStays);
        check.sentence(INSTRUCTION, "then the error has an exception.", InstructionEdgesTest::errorHasAnException);
        check.sentence(INSTRUCTION, "If T was 1 before and it was done", InstructionEdgesTest::traced);
        check.sentence(INSTRUCTION, "or had an exception of group 2, it has the exception TRACE behind it",
                InstructionEdgesTest::tracedBehindGroupTwo);
        check.sentence(INSTRUCTION, "(it does not STOP then)", InstructionEdgesTest::doesNotStop);
        check.sentence(INSTRUCTION, "unless the machine is HALTED by now.", InstructionEdgesTest::halted);
        check.end();
    }

    private static void words(Check check) {
        int moveLong = Rig.move(Rig.LONG, Rig.NUMBER, Rig.d(0));
        Rig rig = new Rig(moveLong, 0x1122, 0x3344);
        rig.step();
        check.equal("three words", Rig.START + 6, rig.pc());
        int[][] rows = {{2042, 0, 0}, {2044, 2, 2048}, {2046, 2, 2048}};
        for (int[] row : rows) {
            Rig end = new Rig().with(Rig.PC, row[0]);
            for (int place = row[0]; place < 2048; place += 2) {
                end.write(place, place == row[0] ? moveLong : 0x5566);
            }
            check.equal("at " + row[0], row[1], end.step());
            check.equal("D0", row[1] == 0 ? 0x55665566 : 0, end.get(0));
            if (row[1] != 0) {
                check.equal("the word that is open, not the long", row[2], end.longAt(Rig.STACK - 12));
                check.equal("is one of an instruction", 7, end.word(Rig.STACK - 14));
            }
        }
        Rig even = new Rig().write(0x102, moveLong, 0x1234, 0x5678).with(Rig.PC, 0x102);
        check.equal("a long at a place of words", 0, even.step());
        check.equal("is read", 0x12345678, even.get(0));
        Rig device = new Rig().with(Rig.PC, 4096);
        device.m.type(0xE0);
        check.equal("a word of devices", 0, device.step());
        check.equal("is read once", 0, device.m.device(3));
        check.equal("PC", 4098, device.pc());
    }

    private static void firstWordAlone(Check check) {
        for (int word : new int[] {0x3FFF, 0x3734, Rig.move(Rig.BYTE, Rig.NUMBER, Rig.a(0)), Rig.move(Rig.LONG,
                Rig.NUMBER, Rig.NUMBER)}) {
            Rig rig = new Rig().write(2046, word).with(Rig.PC, 2046);
            check.equal("there is no other word to be read, " + word, 4, rig.step());
            check.equal("PC of it", 2046, rig.longAt(Rig.STACK - 4));
            check.equal("the same for the user", 4, new Rig(word).user().step());
        }
        Rig rig = new Rig(Rig.move(Rig.LONG, Rig.at(0), Rig.NUMBER)).with(8, 1);
        check.equal("nor is an operand looked at", 4, rig.step());
        check.equal("another word never makes it illegal", 0, new Rig(Rig.STOP, 0xFFFF).step());
    }

    private static void privileged(Check check) {
        int[] words = {Rig.three(11, Rig.d(0)), 0x3720, 0x3728, 0x3730, 0x3732, 0x3733, 0xC07C, 0xC27C, 0xCA7C};
        for (int word : words) {
            Rig user = new Rig().write(2046, word).user().with(Rig.PC, 2046);
            check.equal("of the user, no other word is read, " + word, 8, user.step());
            Rig supervisor = new Rig(word, 0x2700).with(0, 0x2700).write(Rig.STACK, 0x2700, 0, Rig.START);
            check.equal("of the supervisor, " + word, 0, supervisor.step());
        }
        check.equal("ILLEGAL comes first", 4, new Rig(Rig.three(11, Rig.a(0))).user().step());
        check.equal("and for the STATUS with a long", 4, new Rig(0xC0BC).user().step());
        for (int word : new int[] {0x3731, 0x3736, 0xC03C, Rig.three(3, Rig.d(0)), Rig.three(7, Rig.d(0))}) {
            check.equal("not privileged, " + word, 0, new Rig(word, 0).user().step());
        }
        check.equal("not there, for the user, too", 10, new Rig(0xA000).user().step());
    }

    private static void doesNothing(Check check) {
        int[][] rows = {{0x3FFF, 4}, {0xC0BC, 4}, {0x3728, 8}, {0x3720, 8}, {0x3733, 8}, {0xA123, 10}, {0xF123, 11}};
        for (int[] row : rows) {
            Rig rig = new Rig(row[0], 0xFFFF).user().with(Rig.STATUS, 0x8015);
            for (int what = 0; what < 15; what++) {
                rig.with(what, 0x1000 + what);
            }
            check.equal("word " + row[0], row[1], rig.step());
            for (int what = 0; what < 15; what++) {
                check.equal("register " + what, 0x1000 + what, rig.get(what));
            }
            check.equal("user's stack", Rig.USER_STACK, rig.get(Rig.OTHER));
            check.equal("PC of the instruction is pushed", Rig.START, rig.longAt(Rig.STACK - 4));
            check.equal("STATUS before is pushed", 0x8015, rig.word(Rig.STACK - 6));
            check.equal("one frame, so no trace", Rig.STACK - 6, rig.get(15));
            check.equal("its handler", Rig.handler(row[1]), rig.pc());
        }
        Rig timer = new Rig(Rig.move(Rig.LONG, Rig.NUMBER, Rig.SHORT_PLACE), 50, 0x0300, 4098);
        timer.step();
        timer.user().write(Rig.START + 8, 0x3730).step();
        check.equal("the user does not quiet the timer", 48, timer.m.device(0));
        Rig stop = new Rig(Rig.STOP, 0x2000).user();
        stop.step();
        check.equal("nor stop the machine", 0, stop.m.state());
    }

    // The user's stack and A6 are where no access can be done; the frame is on the supervisor's stack.
    private static void registersAsBefore(Check check) {
        int[][] programs = {
            {Rig.move(Rig.LONG, Rig.behind(0), Rig.SHORT_PLACE), Rig.OPEN_PLACE},
            {Rig.move(Rig.LONG, Rig.before(0), Rig.SHORT_PLACE), Rig.OPEN_PLACE},
            {Rig.move(Rig.LONG, Rig.behind(0), Rig.before(6))}, {Rig.three(7, Rig.behind(6))},
            {Rig.three(25, Rig.behind(6)), 0xFFFF}, {Rig.three(22, Rig.before(6)), 0xFFFF},
            {Rig.op(9, 1, 0, Rig.WORD, Rig.before(6))}, {Rig.op(8, 0, 0, 3, Rig.behind(6))},
            {Rig.op(4, 0, 1, Rig.BYTE, Rig.a(6))}, {Rig.op(6, 6, 1, Rig.WORD, Rig.a(0))},
            {Rig.op(12, 1, 1, 1, Rig.a(6)), 0}, {Rig.three(26, Rig.at(0))}, {Rig.three(20, Rig.at(0))},
            {Rig.branch(1, 4)}, {0x3716, 4}, {0x371E}, {0x3735}, {0x3737},
        };
        for (int[] program : programs) {
            Rig rig = new Rig(program).user().with(15, 2051).with(Rig.STATUS, 0x001D);
            for (int what = 0; what < 14; what++) {
                rig.with(what, 0x400 + 16 * what);
            }
            int answer = rig.with(14, 2051).step();
            String behind = " behind " + Integer.toHexString(program[0]);
            check.that("an error" + behind, answer == 2 || answer == 3);
            for (int what = 0; what < 14; what++) {
                check.equal("register " + what + behind, 0x400 + 16 * what, rig.get(what));
            }
            check.equal("A6" + behind, 2051, rig.get(14));
            check.equal("the user's A7" + behind, 2051, rig.get(Rig.OTHER));
            check.equal("PC that is pushed" + behind, Rig.START, rig.longAt(Rig.STACK - 4));
            check.equal("STATUS that is pushed" + behind, 0x001D, rig.word(Rig.STACK - 6));
            check.equal("one frame" + behind, Rig.STACK - 14, rig.get(15));
        }
        Rig returning = new Rig(0x3733).with(15, 2046).with(Rig.OTHER, 0x432).write(2046, 0).flags(0x1D);
        check.equal("the long behind the STATUS is open", 2, returning.step());
        check.equal("STATUS that is pushed", 0x271D, returning.word(2040));
        check.equal("PC that is pushed", Rig.START, returning.longAt(2042));
        check.equal("the OTHER", 0x432, returning.get(Rig.OTHER));
        check.equal("A7 behind the frame", 2046 - 14, returning.get(15));
    }

    private static void whatStays(Check check) {
        Rig written = new Rig(Rig.three(22, Rig.at(0)), 0x0007).with(8, 2040).with(0, 0x11).with(1, 0x22).with(2, 0x33);
        check.equal("the third of three longs is open", 2, written.step());
        check.equal("the first one stays written", 0x11, written.longAt(2040));
        check.equal("the second one, too", 0x22, written.longAt(2044));
        Rig said = new Rig(Rig.op(12, 0, 1, 3, Rig.a(0)), 0).with(8, 4096).with(0, 0x41424344).user()
                .with(Rig.STATUS, 0x2700);
        check.equal("four bytes from the port on", 0, said.step());
        check.equal("one is said", 0x41, said.m.said(0));
        said = new Rig(Rig.op(12, 0, 1, 3, Rig.a(0)), 0).with(8, 4100).with(0, 0x06424344);
        check.equal("the third of four bytes is open", 2, said.step());
        check.equal("the level of the timer stays written", 6, said.m.device(1));
        said = new Rig(Rig.three(21, Rig.at(0)), 0x001F).with(8, 4096).with(0, 0x4100);
        check.equal("the fifth of five words is open", 2, said.step());
        check.equal("what was said stays said", 0x41, said.m.said(0));
        check.equal("once", 1, said.m.device(4));
        Rig read = new Rig(Rig.move(Rig.BYTE, Rig.SHORT_PLACE, Rig.SHORT_PLACE), 4096, Rig.OPEN_PLACE).with(0, 3);
        read.m.type(9);
        read.m.type(8);
        check.equal("an error behind the reading", 2, read.step());
        check.equal("what was read stays so", 1, read.m.device(3));
        Rig loaded = new Rig(Rig.three(24, Rig.at(0)), 0x001F).with(8, 4096).with(0, 3);
        loaded.m.type(9);
        check.equal("an error behind four words", 2, loaded.step());
        check.equal("the byte is gone", 0, loaded.m.device(3));
        check.equal("D0 is as before", 3, loaded.get(0));
    }

    private static void errorHasAnException(Check check) {
        Rig rig = new Rig(Rig.op(8, 0, 0, 3, Rig.at(0))).with(8, 1).with(Rig.STATUS, 0xA700);
        check.equal("an error, not a division by 0", 3, rig.step());
        check.equal("no trace behind it", Rig.handler(3), rig.pc());
        check.equal("counted", 1, rig.m.counted(3));
        check.equal("not counted", 0, rig.m.counted(5) + rig.m.counted(9));
        rig = new Rig(Rig.op(14, 0, 1, 1, Rig.at(0))).with(8, 2048).with(0, -1);
        check.equal("an error, not a check", 2, rig.step());
        rig = new Rig().write(2046, Rig.STOP).with(Rig.PC, 2046);
        check.equal("no word to stop with", 2, rig.step());
        check.equal("so it is not STOPPED", 0, rig.m.state());
        rig = new Rig(Rig.three(22, Rig.at(0)), 3).with(8, 0x3FE).with(1, -1);
        rig.m.fence(0x400);
        check.equal("the first of two longs is below the fence", 2, rig.step());
        check.equal("the second one is not written", 0, rig.longAt(0x402));
        check.equal("the place is that of the first", 0x3FE, rig.longAt(Rig.STACK - 12));
        check.equal("one exception", Rig.STACK - 14, rig.get(15));
    }

    private static void traced(Check check) {
        Rig before = new Rig(0xC27C, 0x7FFF).with(Rig.STATUS, 0xA700);
        check.equal("T was 1 before, 0 behind it", 9, before.step());
        check.equal("STATUS before the trace", 0x2700, before.word(Rig.STACK - 6));
        check.equal("PC of the next", Rig.START + 4, before.longAt(Rig.STACK - 4));
        Rig behind = new Rig(0xC07C, 0x8000, Rig.NOTHING);
        check.equal("T was 0 before, 1 behind it", 0, behind.step());
        check.equal("the next one is traced", 9, behind.step());
        check.equal("T is 0 in the handler", 0, behind.get(Rig.STATUS) & 0x8000);
        Rig returned = new Rig(0x3733).write(Rig.STACK, 0xA700, 0, 0x300).write(0x300, Rig.NOTHING);
        check.equal("a return to T", 0, returned.step());
        check.equal("traced then", 9, returned.step());
        Rig jumped = new Rig(Rig.three(27, Rig.SHORT_PLACE), 0x301).with(Rig.STATUS, 0xA700);
        check.equal("a jump to an odd place is done", 9, jumped.step());
        check.equal("that place is the next one", 0x301, jumped.longAt(Rig.STACK - 4));
        for (int word : new int[] {0x3FFF, 0xA000, 0xF000}) {
            Rig not = new Rig(word).with(Rig.STATUS, 0xA700);
            not.step();
            check.equal("not behind group 1, " + word, 0, not.m.counted(9));
        }
        Rig not = new Rig(0x3730).user().with(Rig.STATUS, 0x8000);
        check.equal("nor behind a privileged one", 8, not.step());
        check.equal("one frame", Rig.STACK - 6, not.get(15));
        Rig interrupted = new Rig(Rig.NOTHING).with(Rig.STATUS, 0xA000);
        interrupted.m.level(1);
        check.equal("an interrupt is no instruction", 25, interrupted.step());
        check.equal("so it has no trace", 0, interrupted.m.counted(9));
    }

    private static void tracedBehindGroupTwo(Check check) {
        int[][] rows = {
            {0x3700, 32}, {0x370F, 47}, {Rig.op(8, 0, 0, 3, Rig.d(1)), 5}, {Rig.op(14, 0, 1, 1, Rig.d(1)), 6},
            {0x3736, 7},
        };
        for (int[] row : rows) {
            Rig rig = new Rig(row[0]).with(0, 0x7FFF).with(Rig.STATUS, 0xA702);
            check.equal("the one of group 2 comes first", row[1], rig.step());
            check.equal("PC is that of the trace", Rig.handler(9), rig.pc());
            check.equal("two frames", Rig.STACK - 12, rig.get(15));
            check.equal("the trace pushes the other's handler", Rig.handler(row[1]), rig.longAt(Rig.STACK - 10));
            check.equal("and a STATUS without T", 0x2702, rig.word(Rig.STACK - 12));
            check.equal("the first one pushes the next PC", Rig.START + 2, rig.longAt(Rig.STACK - 4));
            check.equal("and T", 0xA702, rig.word(Rig.STACK - 6));
        }
    }

    private static void doesNotStop(Check check) {
        Rig rig = new Rig(Rig.STOP, 0x2105).with(Rig.STATUS, 0xA700);
        check.equal("traced", 9, rig.step());
        check.equal("not STOPPED", 0, rig.m.state());
        check.equal("but the STATUS has changed", 0x2105, rig.word(Rig.STACK - 6));
        check.equal("PC behind it", Rig.START + 4, rig.longAt(Rig.STACK - 4));
        check.equal("the handler goes on", 4, rig.write(Rig.handler(9), 0x3FFF).step());
        rig = new Rig(Rig.STOP, 0xA105);
        check.equal("T only behind it", 0, rig.step());
        check.equal("STOPPED", 1, rig.m.state());
    }

    private static void halted(Check check) {
        Rig rig = new Rig(0x3700).with(15, 0x404).with(Rig.STATUS, 0xA700);
        rig.m.fence(0x400);
        check.equal("a call that halts", 32, rig.step());
        check.equal("HALTED", 2, rig.m.state());
        check.equal("no trace: registers as before the call", 0xA700, rig.get(Rig.STATUS));
        check.equal("PC", Rig.START + 2, rig.pc());
        rig = new Rig(0x3700).with(15, 0x406).with(Rig.STATUS, 0xA700);
        rig.m.fence(0x400);
        check.equal("a call that does not, but its trace does", 32, rig.step());
        check.equal("HALTED, too", 2, rig.m.state());
        check.equal("registers as before the trace", Rig.handler(32), rig.pc());
        check.equal("counted", 1, rig.m.counted(32));
        rig = new Rig(0x3700).with(15, 4100).with(Rig.STATUS, 0xA700);
        check.equal("a call whose PC can be pushed, by saying it", 32, rig.step());
        check.equal("it was said for the call and for the error, not for a trace", 2, rig.m.device(4));
        rig = new Rig(Rig.NOTHING).with(15, 1).with(Rig.STATUS, 0xA700);
        check.equal("the trace itself halts", 9, rig.step());
        check.equal("behind what was done", Rig.START + 2, rig.pc());
    }
}
