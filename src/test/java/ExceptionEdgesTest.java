/** The document's Terms, on which promises 6 and 16 rest: EXCEPTIONS and their frames, at their edges. */
public final class ExceptionEdgesTest {

    private static final String EXCEPTIONS = "Promise 6, 16, Terms, EXCEPTIONS";

    public static void main(String[] args) {
        Check check = new Check("ExceptionEdgesTest");
        check.sentence(EXCEPTIONS, "24 + the level INTERRUPT", ExceptionEdgesTest::interrupts);
        check.sentence(EXCEPTIONS, "32 .. 47 CALLS of the supervisor.", ExceptionEdgesTest::calls);
        check.sentence(EXCEPTIONS, "S becomes 1, T 0, and for an interrupt the MASK the level",
                ExceptionEdgesTest::status);
        check.sentence(EXCEPTIONS,
                "a long PC, that of the instruction for 2, 3, 4, 8, 10, 11, that of the next one for the others",
                ExceptionEdgesTest::pushedPc);
        check.sentence(EXCEPTIONS, "the STATUS as it was before this exception", ExceptionEdgesTest::pushedStatus);
        check.sentence(EXCEPTIONS, "the first word of the instruction that was begun latest",
                ExceptionEdgesTest::firstWord);
        check.sentence(EXCEPTIONS, "(0 if it could not be read, or there was none since reset())",
                ExceptionEdgesTest::noFirstWord);
        check.sentence(EXCEPTIONS, "the address of the access (modulo 2^24, a long)", ExceptionEdgesTest::address);
        check.sentence(EXCEPTIONS,
                "1 if it read, 2 more if that was a word of an instruction, 4 more if S was 1 before.",
                ExceptionEdgesTest::way);
        check.sentence(EXCEPTIONS, "Then the PC becomes the long that is read at 4 * vector.",
                ExceptionEdgesTest::handlers);
        check.sentence(EXCEPTIONS, "If an access in that is an error, all registers are as before this exception",
                ExceptionEdgesTest::registersAsBefore);
        check.sentence(EXCEPTIONS, "of group 0: the machine is HALTED", ExceptionEdgesTest::halted);
        check.sentence(EXCEPTIONS,
                "otherwise the error's own exception is worked off instead, the PC being the one that this one "
                + "pushes or would have pushed.",
                ExceptionEdgesTest::instead);
        check.end();
    }

    private static void interrupts(Check check) {
        for (int level = 1; level < 8; level++) {
            Rig rig = new Rig(Rig.NOTHING).with(Rig.STATUS, 0x2000);
            rig.m.level(level);
            check.equal("level " + level, 24 + level, rig.step());
            check.equal("its handler", Rig.handler(24 + level), rig.pc());
            check.equal("counted", 1, rig.m.counted(24 + level));
        }
    }

    private static void calls(Check check) {
        for (int k = 0; k < 16; k++) {
            Rig rig = new Rig(0x3700 + k).user();
            check.equal("call " + k, 32 + k, rig.step());
            check.equal("its handler", Rig.handler(32 + k), rig.pc());
            check.equal("counted", 1, rig.m.counted(32 + k));
        }
        check.equal("16 is none of them", 0, new Rig(0x3710, 0).step());
    }

    private static void status(Check check) {
        for (int mask = 0; mask < 8; mask++) {
            Rig call = new Rig(0x3700).user().with(Rig.STATUS, 0x801F | mask << 8);
            call.step();
            check.equal("T 0 in the end, MASK stays " + mask, 0x201F | mask << 8, call.get(Rig.STATUS));
            Rig illegal = new Rig(0x3FFF).user().with(Rig.STATUS, 0x8015 | mask << 8);
            illegal.step();
            check.equal("S 1, T 0, flags stay, MASK stays " + mask, 0x2015 | mask << 8, illegal.get(Rig.STATUS));
            Rig error = new Rig().user().with(Rig.PC, 1).with(Rig.STATUS, 0x800A | mask << 8);
            error.step();
            check.equal("of an error, MASK stays " + mask, 0x200A | mask << 8, error.get(Rig.STATUS));
            Rig interrupt = new Rig().user().with(Rig.STATUS, 0x801F | mask << 8);
            interrupt.m.level(7);
            interrupt.step();
            check.equal("of an interrupt, MASK was " + mask, 0x271F, interrupt.get(Rig.STATUS));
        }
        for (int level = 1; level < 8; level++) {
            Rig rig = new Rig().with(Rig.STATUS, 0xA000);
            rig.m.level(level);
            rig.step();
            check.equal("the MASK is the level " + level, 0x2000 | level << 8, rig.get(Rig.STATUS));
        }
    }

    private static void pushed(Check check, int vector, int due, Rig rig) {
        check.equal("vector " + vector, vector, rig.step());
        check.equal("PC that " + vector + " pushes", due, rig.longAt(Rig.STACK - 4));
        check.equal("its length", Rig.STACK - (vector < 4 ? 14 : 6), rig.get(15));
    }

    private static void pushedPc(Check check) {
        pushed(check, 2, Rig.START, new Rig(Rig.move(Rig.BYTE, Rig.LONG_PLACE, Rig.d(0)), 0, 3000));
        pushed(check, 3, Rig.START, new Rig(Rig.move(Rig.WORD, Rig.LONG_PLACE, Rig.d(0)), 0, 301));
        pushed(check, 4, Rig.START, new Rig(0x3FFF));
        pushed(check, 8, Rig.START, new Rig(Rig.STOP, 0).user());
        pushed(check, 10, Rig.START, new Rig(0xAFFF));
        pushed(check, 11, Rig.START, new Rig(0xFFFF));
        pushed(check, 5, Rig.START + 4, new Rig(Rig.op(8, 0, 0, 3, Rig.NUMBER), 0));
        pushed(check, 6, Rig.START + 4, new Rig(Rig.op(14, 0, 1, 1, Rig.NUMBER), 0).with(0, -1));
        pushed(check, 7, Rig.START + 2, new Rig(0x3736).flags(Rig.V));
        pushed(check, 9, Rig.START + 4, new Rig(Rig.op(9, 0, 0, 3, Rig.a(0)), 0).with(Rig.STATUS, 0xA700));
        pushed(check, 9, Rig.START + 0x40, new Rig(Rig.branch(0, 0x3E)).with(Rig.STATUS, 0xA700));
        pushed(check, 32, Rig.START + 2, new Rig(0x3700));
        pushed(check, 47, Rig.START + 2, new Rig(0x370F));
        Rig interrupt = new Rig(Rig.NOTHING);
        interrupt.m.level(7);
        pushed(check, 31, Rig.START, interrupt);
        Rig upper = new Rig(0x3700).with(Rig.PC, 0xFE000000 | Rig.START);
        pushed(check, 32, 0xFE000000 | Rig.START + 2, upper);
    }

    private static void pushedStatus(Check check) {
        for (int status : new int[] {0x0000, 0x001F, 0x0715, 0x2000, 0x271F}) {
            Rig rig = new Rig(0x3700).user().with(Rig.STATUS, status);
            rig.step();
            check.equal("STATUS " + status, status, rig.word(status < 0x2000 ? Rig.STACK - 6 : rig.get(15)));
        }
        Rig interrupt = new Rig().with(Rig.STATUS, 0xA31F);
        interrupt.m.level(4);
        interrupt.step();
        check.equal("of an interrupt with its former MASK and T", 0xA31F, interrupt.word(Rig.STACK - 6));
        Rig checked = new Rig(Rig.op(14, 0, 1, 1, Rig.d(1))).with(0, -1);
        checked.step();
        check.equal("with the N of the check itself", 0x2708, checked.word(Rig.STACK - 6));
        Rig error = new Rig(Rig.move(Rig.WORD, Rig.d(0), Rig.at(0))).with(8, 1).with(0, 0).flags(Rig.N);
        error.step();
        check.equal("of an error as before the instruction", 0x2708, error.word(Rig.STACK - 6));
    }

    private static void firstWord(Check check) {
        int word = Rig.move(Rig.WORD, Rig.at(0), Rig.d(0));
        Rig rig = new Rig(Rig.NOTHING, word).with(8, 1);
        rig.m.run(2);
        check.equal("not that of the one before", word, rig.word(Rig.STACK - 8));
        int three = Rig.move(Rig.LONG, Rig.NUMBER, Rig.d(0));
        Rig later = new Rig().write(2044, three, 0x1234).with(Rig.PC, 2044);
        later.step();
        check.equal("not the word that was read latest", three, later.word(Rig.STACK - 8));
        Rig handled = new Rig(0x3700).write(Rig.handler(32), word).with(8, 1);
        handled.m.run(2);
        check.equal("that in the handler", word, handled.word(Rig.STACK - 14));
        Rig greatest = new Rig(Rig.op(13, 3, 1, 3, Rig.before(7))).user().with(15, 1);
        greatest.step();
        check.equal("with its highest bit", Rig.op(13, 3, 1, 3, Rig.before(7)), greatest.word(Rig.STACK - 8));
    }

    private static void noFirstWord(Check check) {
        for (int pc : new int[] {1, 2048, 4104, -2, 0x01000101}) {
            Rig rig = new Rig(Rig.NOTHING).write(Rig.STACK - 8, 0x9999);
            rig.step();
            rig.with(Rig.PC, pc).step();
            check.equal("0 at an open or odd PC " + pc, 0, rig.word(Rig.STACK - 8));
            check.equal("PC as it was", pc, rig.longAt(Rig.STACK - 4));
        }
        Rig none = new Rig().write(Rig.STACK - 8, 0x9999).with(Rig.PC, 2048);
        none.step();
        check.equal("none since reset()", 0, none.word(Rig.STACK - 8));
        Rig interrupt = new Rig(0x3733).write(Rig.STACK, 0x2700, 0, Rig.START);
        interrupt.m.reset();
        interrupt.m.level(7);
        interrupt.with(15, 0x404).m.fence(0x400);
        check.equal("none but an interrupt", 31, interrupt.step());
        check.equal("which halts", 2, interrupt.m.state());
    }

    private static void address(Check check) {
        int[][] rows = {{0x12000BB8, 0x0BB8}, {0xFFFFFFFE, 0xFFFFFE}, {0x00FFFFFE, 0xFFFFFE}, {2048, 2048},
            {0x81000301, 0x301},
            {1, 1}, {0x7F800000, 0x800000}};
        for (int[] row : rows) {
            Rig rig = new Rig(Rig.move(Rig.WORD, Rig.at(0), Rig.d(0))).with(8, row[0]);
            rig.step();
            check.equal("address " + Integer.toHexString(row[0]), row[1], rig.longAt(Rig.STACK - 12));
        }
        Rig pc = new Rig().with(Rig.PC, 0xAB000801);
        pc.step();
        check.equal("of a PC", 0x801, pc.longAt(Rig.STACK - 12));
        check.equal("which itself keeps its upper bits", 0xAB000801, pc.longAt(Rig.STACK - 4));
        Rig before = new Rig(Rig.move(Rig.LONG, Rig.d(0), Rig.before(0))).with(8, 0x303);
        before.step();
        check.equal("the place of the access, not the register's", 0x2FF, before.longAt(Rig.STACK - 12));
        Rig whole = new Rig(Rig.move(Rig.LONG, Rig.at(0), Rig.d(0))).with(8, 2046);
        whole.step();
        check.equal("the first byte of it, not the open one", 2046, whole.longAt(Rig.STACK - 12));
    }

    private static void wayOf(Check check, String what, int due, Rig rig) {
        int answer = rig.step();
        check.that(what + ": an error", answer == 2 || answer == 3);
        check.equal(what, due, rig.word(Rig.STACK - 14));
    }

    private static void way(Check check) {
        int read = Rig.move(Rig.WORD, Rig.at(0), Rig.d(0));
        int write = Rig.move(Rig.WORD, Rig.d(0), Rig.at(0));
        wayOf(check, "the user writes", 0, new Rig(write).with(8, 1).user());
        wayOf(check, "the user reads", 1, new Rig(read).with(8, 1).user());
        wayOf(check, "the user's first word", 3, new Rig().user().with(Rig.PC, 1));
        wayOf(check, "the user's other word", 3,
                new Rig().write(2046, Rig.move(Rig.WORD, Rig.NUMBER, Rig.d(0))).user().with(Rig.PC, 2046));
        wayOf(check, "the supervisor writes", 4, new Rig(write).with(8, 3000));
        wayOf(check, "the supervisor reads", 5, new Rig(read).with(8, 3000));
        wayOf(check, "the supervisor's first word", 7, new Rig().with(Rig.PC, 3000));
        wayOf(check, "the supervisor's list", 7, new Rig().write(2046, Rig.three(22, Rig.at(0))).with(Rig.PC, 2046));
        wayOf(check, "a place from the PC is no word of it", 5, new Rig(Rig.move(Rig.WORD, Rig.FROM_PC, Rig.d(0)), 1));
        wayOf(check, "what is changed is read first", 5, new Rig(Rig.op(9, 1, 0, Rig.WORD, Rig.at(0))).with(8, 1));
        wayOf(check, "what becomes 0 is not", 4, new Rig(Rig.three(5, Rig.at(0))).with(8, 1));
        wayOf(check, "the user pushes", 0, new Rig(Rig.branch(1, 2)).user().with(15, 1));
        wayOf(check, "the user pulls", 1, new Rig(0x3735).user().with(15, 1));
        Rig fenced = new Rig(Rig.op(9, 1, 0, Rig.WORD, Rig.at(0))).with(8, 0x300);
        fenced.m.fence(0x400);
        wayOf(check, "what is changed below the fence is written", 4, fenced);
    }

    private static void handlers(Check check) {
        for (int value : new int[] {0, 1, 0x7FFFFFFF, 0x80000000, -1}) {
            Rig rig = new Rig(0x370F);
            rig.m.fill(4 * 47, 2, value);
            check.equal("whatever it is", 47, rig.step());
            check.equal("the long at 188", value, rig.pc());
        }
        Rig fenced = new Rig(0x3700);
        fenced.m.fence(0x200);
        fenced.step();
        check.equal("below the fence, too", Rig.handler(32), fenced.pc());
        Rig own = new Rig(0x3700).with(15, 4 * 32 + 6);
        own.step();
        check.equal("a frame in its place counts", 0x27000000, own.pc() & 0xFFFF0000);
    }

    private static void registersAsBefore(Check check) {
        Rig interrupt = new Rig(Rig.NOTHING).with(15, 0x404).with(Rig.STATUS, 0xA01F);
        interrupt.m.fence(0x400);
        interrupt.m.level(3);
        check.equal("the interrupt comes first", 27, interrupt.step());
        check.equal("A7", 0x404, interrupt.get(15));
        check.equal("S, T, MASK", 0xA01F, interrupt.get(Rig.STATUS));
        check.equal("PC", Rig.START, interrupt.pc());
        check.equal("what was pushed stays", Rig.START, interrupt.longAt(0x400));
        Rig user = new Rig(0x3700).user().with(Rig.OTHER, 3).with(Rig.STATUS, 0x801F);
        check.equal("a call of the user", 32, user.step());
        check.equal("the user's state as before", 0x801F, user.get(Rig.STATUS));
        check.equal("his A7", Rig.USER_STACK, user.get(15));
        check.equal("the OTHER", 3, user.get(Rig.OTHER));
        check.equal("PC of the next", Rig.START + 2, user.pc());
        Rig illegal = new Rig(0x3FFF).with(15, 2).flags(Rig.N);
        check.equal("an illegal one", 4, illegal.step());
        check.equal("its PC", Rig.START, illegal.pc());
        check.equal("its A7", 2, illegal.get(15));
        check.equal("its STATUS", 0x2708, illegal.get(Rig.STATUS));
    }

    private static void halted(Check check) {
        int word = Rig.move(Rig.WORD, Rig.d(0), Rig.behind(0));
        int[] pushes = {4, 6, 8, 12, 14};
        for (int room = 0; room <= 14; room += 2) {
            Rig rig = new Rig(word).with(8, 0x301).with(15, 0x400 + room).flags(Rig.X);
            rig.m.fence(0x400);
            check.equal("the error comes first, room " + room, 3, rig.step());
            check.equal("HALTED with room " + room, room < 14 ? 2 : 0, rig.m.state());
            check.equal("A7", room < 14 ? 0x400 + room : 0x400, rig.get(15));
            check.equal("PC", room < 14 ? Rig.START : Rig.handler(3), rig.pc());
            check.equal("counted", room < 14 ? 0 : 1, rig.m.counted(3));
            check.equal("not the second error", 0, rig.m.counted(2));
            check.equal("A0 as before the instruction", 0x301, rig.get(8));
            check.equal("the PC that was pushed stays", room >= pushes[0] ? Rig.START : 0,
                    rig.longAt(0x400 + room - 4));
            check.equal("the STATUS that was pushed stays", room >= pushes[1] ? 0x2710 : 0, rig.word(0x400 + room - 6));
            check.equal("the first word", room >= pushes[2] ? word : 0, rig.word(0x400 + room - 8));
            check.equal("the address", room >= pushes[3] ? 0x301 : 0, rig.longAt(0x400 + room - 12));
            check.equal("the last word", room >= pushes[4] ? 4 : 0, rig.word(0x400 + room - 14));
        }
    }

    // The error's own frame begins with the same two pushes, so it meets the same error and halts.
    private static void instead(Check check) {
        Rig rig = new Rig(0x3701).with(15, 4100).with(Rig.PC, 0x41000000 | Rig.START);
        check.equal("the PC fits into the devices, the STATUS does not", 33, rig.step());
        check.equal("the PC was pushed for the call, and again for the error", 2, rig.m.device(4));
        check.equal("the PC of the next, for the call", 0x41, rig.m.said(0));
        check.equal("and for the error", 0x41, rig.m.said(1));
        check.equal("HALTED", 2, rig.m.state());
        check.equal("PC of the next", 0x41000000 | Rig.START + 2, rig.pc());
        Rig illegal = new Rig(0x3FFF).with(15, 4100).with(Rig.PC, 0x42000000 | Rig.START);
        check.equal("an illegal one", 4, illegal.step());
        check.equal("its own PC was pushed twice", 2, illegal.m.device(4));
        check.equal("PC of it", 0x42000000 | Rig.START, illegal.pc());
        Rig error = new Rig().with(15, 4100).with(Rig.PC, 0x43000801);
        check.equal("an error", 3, error.step());
        check.equal("pushes once", 1, error.m.device(4));
        check.equal("neither is counted", 0,
                rig.m.counted(33) + rig.m.counted(2) + illegal.m.counted(4) + illegal.m.counted(2));
    }
}
