/** The document's Terms, on which promise 6 rests: the BUS, at its edges. */
public final class BusEdgesTest {

    private static final String BUS = "Promise 6, Terms, THE BUS";

    public static void main(String[] args) {
        Check check = new Check("BusEdgesTest");
        check.sentence(BUS, "Addresses count modulo 2^24.", BusEdgesTest::modulo);
        check.sentence(BUS, "0 .. 2047 is MEMORY", BusEdgesTest::memory);
        check.sentence(BUS, "4096 .. 4103 are DEVICES", BusEdgesTest::devices);
        check.sentence(BUS, "all else is OPEN.", BusEdgesTest::open);
        check.sentence(BUS, "It is an ADDRESS ERROR if that is no byte and the address is odd", BusEdgesTest::odd);
        check.sentence(BUS, "otherwise a BUS ERROR if one of its bytes is OPEN", BusEdgesTest::partlyOpen);
        check.sentence(BUS, "or a device's while S is 0", BusEdgesTest::devicesOfTheUser);
        check.sentence("Promise 4, 6, Terms, THE BUS", "or memory below the FENCE that would be written.",
                BusEdgesTest::fence);
        check.sentence(BUS, "In both cases nothing of it is done", BusEdgesTest::nothingIsDone);
        check.sentence(BUS, "otherwise its bytes are done one by one, the first one first.", BusEdgesTest::oneByOne);
        check.end();
    }

    private static int reading(int size, int place) {
        return new Rig(Rig.move(size, Rig.at(0), Rig.d(0))).with(8, place).step();
    }

    private static int writing(int size, int place) {
        return new Rig(Rig.move(size, Rig.d(0), Rig.at(0))).with(8, place).step();
    }

    private static void both(Check check, int size, int place, int due) {
        check.equal("reading size " + size + " at " + place, due, reading(size, place));
        check.equal("writing size " + size + " at " + place, due, writing(size, place));
    }

    private static void modulo(Check check) {
        for (int upper : new int[] {0x01000000, 0x7F000000, 0x80000000, 0xFF000000}) {
            Rig rig = new Rig(Rig.move(Rig.LONG, Rig.at(0), Rig.at(1))).with(8, upper | 0x7FC).with(9, upper);
            rig.write(0x7FC, 0xBEEF, 0xCAFE);
            check.equal("upper bits do not count", 0, rig.step());
            check.equal("the long was moved", 0xBEEFCAFE, rig.longAt(0));
            both(check, Rig.BYTE, upper | 0x7FF, 0);
            both(check, Rig.BYTE, upper | 0x800, 2);
            both(check, Rig.BYTE, upper | 4103, 0);
            both(check, Rig.WORD, upper | 1, 3);
            Rig pc = new Rig(Rig.NOTHING).with(Rig.PC, upper | Rig.START);
            check.equal("nor those of the PC", 0, pc.step());
            check.equal("the PC keeps them", upper | Rig.START + 2, pc.pc());
            Rig fenced = new Rig(Rig.move(Rig.BYTE, Rig.d(0), Rig.at(0))).with(8, upper | 0x3FF);
            fenced.m.fence(0x400);
            check.equal("the fence is there, too", 2, fenced.step());
            check.equal("the address of an error, too", 0x3FF, fenced.longAt(Rig.STACK - 12));
        }
        Rig port = new Rig(Rig.move(Rig.BYTE, Rig.d(0), Rig.LONG_PLACE), 0x0100, 4096).with(0, 0x42);
        port.step();
        check.equal("the port at 2^24 + 4096", 0x42, port.m.said(0));
        Rig stack = new Rig(0x3700).with(15, 0x12000600);
        check.equal("the stack, too", 32, stack.step());
        check.equal("what was pushed", Rig.START + 2, stack.longAt(0x5FC));
    }

    private static void memory(Check check) {
        both(check, Rig.BYTE, 0, 0);
        both(check, Rig.WORD, 0, 0);
        both(check, Rig.LONG, 0, 0);
        both(check, Rig.BYTE, 2047, 0);
        both(check, Rig.WORD, 2046, 0);
        both(check, Rig.LONG, 2044, 0);
        check.equal("the user's, too", 0, new Rig(Rig.move(Rig.LONG, Rig.at(0), Rig.at(1))).with(8, 2044).user()
                .step());
        Rig last = new Rig(Rig.move(Rig.LONG, Rig.d(0), Rig.at(0))).with(8, 2044).with(0, 0x01020304);
        last.step();
        check.equal("the last long", 0x01020304, last.longAt(2044));
        Rig instruction = new Rig().write(2046, Rig.op(14, 0, 0, 0, 5)).with(Rig.PC, 2046);
        check.equal("an instruction in the last word", 0, instruction.step());
        check.equal("PC behind memory", 2048, instruction.pc());
        check.equal("no instruction there", 2, instruction.step());
    }

    private static void devices(Check check) {
        for (int place = 4096; place < 4104; place++) {
            both(check, Rig.BYTE, place, 0);
        }
        for (int place = 4096; place < 4104; place += 2) {
            both(check, Rig.WORD, place, 0);
        }
        for (int place = 4096; place < 4102; place += 2) {
            both(check, Rig.LONG, place, 0);
        }
    }

    private static void open(Check check) {
        int[] places = {2048, 2050, 3000, 4094, 4095, 4104, 4105, 4106, 8192, 0x8000, 0x10000, 0x7FFFFF, 0x800000,
            0xFFFFFF, -1, -2, -4096};
        for (int place : places) {
            both(check, Rig.BYTE, place, 2);
        }
        for (int place : new int[] {2048, 4094, 4104, 0xFFFFFE, -2}) {
            both(check, Rig.WORD, place, 2);
        }
        for (int place : new int[] {2048, 4092, 4104, 0xFFFFFC, -4}) {
            both(check, Rig.LONG, place, 2);
        }
    }

    private static void odd(Check check) {
        for (int place : new int[] {1, 0x301, 2045, 4097, 4101}) {
            both(check, Rig.BYTE, place, 0);
            both(check, Rig.WORD, place, 3);
            both(check, Rig.LONG, place, 3);
        }
        for (int place : new int[] {2047, 2049, 4095, 4103, 4105, -1, 0xFFFFFF}) {
            both(check, Rig.WORD, place, 3);
            both(check, Rig.LONG, place, 3);
        }
        Rig user = new Rig(Rig.move(Rig.WORD, Rig.at(0), Rig.d(0))).with(8, 4097).user();
        check.equal("before the user's devices", 3, user.step());
        Rig fenced = new Rig(Rig.move(Rig.WORD, Rig.d(0), Rig.at(0))).with(8, 0x301);
        fenced.m.fence(0x400);
        check.equal("before the fence", 3, fenced.step());
        check.equal("an odd PC", 3, new Rig().with(Rig.PC, Rig.START + 1).step());
    }

    private static void partlyOpen(Check check) {
        both(check, Rig.LONG, 2046, 2);
        both(check, Rig.LONG, 4094, 2);
        both(check, Rig.LONG, 4102, 2);
        both(check, Rig.LONG, 0xFFFFFE, 2);
        both(check, Rig.LONG, -2, 2);
    }

    private static void devicesOfTheUser(Check check) {
        for (int place = 4096; place < 4104; place++) {
            Rig rig = new Rig(Rig.move(Rig.BYTE, Rig.at(0), Rig.d(0))).with(8, place).user();
            check.equal("reading " + place, 2, rig.step());
            rig = new Rig(Rig.move(Rig.BYTE, Rig.d(0), Rig.at(0))).with(8, place).user();
            check.equal("writing " + place, 2, rig.step());
        }
        Rig rig = new Rig().user().with(Rig.PC, 4096);
        rig.m.type(0x37);
        check.equal("an instruction there", 2, rig.step());
        check.equal("is not read", 1, rig.m.device(3));
        rig = new Rig().with(Rig.PC, 4096);
        rig.m.type(0x37);
        check.equal("the supervisor's is: 0x3700", 32, rig.step());
        check.equal("with the byte that was typed", 0, rig.m.device(3));
        rig = new Rig(0x3700).user().with(Rig.OTHER, 4104);
        check.equal("an exception of the user pushes as the supervisor", 32, rig.step());
        check.equal("so a device can be its stack", 4098, rig.get(15));
    }

    private static void fenced(Check check, int size, int place, int fence, int due) {
        Rig rig = new Rig(Rig.move(size, Rig.d(0), Rig.at(0))).with(8, place).with(0, 0x55555555);
        rig.m.fence(fence);
        String what = "size " + size + " at " + place + ", fence at " + fence;
        check.equal(what, due, rig.step());
        rig = new Rig(Rig.move(size, Rig.at(0), Rig.d(0))).with(8, place);
        rig.m.fence(fence);
        check.equal(what + ", reading", due == 3 ? 3 : 0, rig.step());
    }

    private static void fence(Check check) {
        for (int size = 0; size < 3; size++) {
            fenced(check, size, 0, 0, 0);
            fenced(check, size, 0x400, 0x400, 0);
            fenced(check, size, 0x3FC, 0x400, 2);
            fenced(check, size, 0, 1, 2);
            fenced(check, size, 0, 2048, 2);
        }
        fenced(check, Rig.BYTE, 0x3FF, 0x400, 2);
        fenced(check, Rig.BYTE, 0x401, 0x401, 0);
        fenced(check, Rig.WORD, 0x3FE, 0x400, 2);
        fenced(check, Rig.WORD, 0x400, 0x401, 2);
        fenced(check, Rig.LONG, 0x3FE, 0x400, 2);
        fenced(check, Rig.LONG, 0x400, 0x403, 2);
        fenced(check, Rig.BYTE, 2047, 2047, 0);
        fenced(check, Rig.BYTE, 2047, 2048, 2);
        fenced(check, Rig.WORD, 2046, 2046, 0);
        fenced(check, Rig.WORD, 2046, 2047, 2);
        fenced(check, Rig.WORD, 0x3FD, 0x400, 3);
        fenced(check, Rig.BYTE, 4096, 2048, 0);
        fenced(check, Rig.WORD, 4098, 2048, 0);
        fenced(check, Rig.LONG, 4100, 2048, 0);
        Rig user = new Rig(Rig.move(Rig.BYTE, Rig.d(0), Rig.at(0))).with(8, 0x3FF).user();
        user.m.fence(0x400);
        check.equal("the user's, too", 2, user.step());
        Rig program = new Rig(Rig.NOTHING, Rig.NOTHING);
        program.m.fence(2048);
        check.equal("instructions are read below it", 0, program.step());
        check.equal("and again", 0, program.step());
    }

    private static void nothingIsDone(Check check) {
        Rig rig = new Rig(Rig.move(Rig.LONG, Rig.d(0), Rig.at(0))).with(8, 0x3FE).with(0, -1);
        rig.m.fence(0x400);
        rig.step();
        check.equal("a half below the fence: the upper one", 0, rig.word(0x3FE));
        check.equal("a half below the fence: the lower one", 0, rig.word(0x400));
        rig = new Rig(Rig.move(Rig.LONG, Rig.d(0), Rig.at(0))).with(8, 2046).with(0, -1);
        rig.step();
        check.equal("a half behind memory", 0, rig.word(2046));
        rig = new Rig(Rig.move(Rig.WORD, Rig.d(0), Rig.at(0))).with(8, 0x701).with(0, -1);
        rig.step();
        check.equal("an odd word", 0, rig.longAt(0x700));
        rig = new Rig(Rig.move(Rig.LONG, Rig.d(0), Rig.at(0))).with(8, 4094).with(0, 0x11223344);
        rig.step();
        check.equal("a half before the port: nothing is said", 0, rig.m.device(4));
        rig = new Rig(Rig.move(Rig.LONG, Rig.at(0), Rig.d(0))).with(8, 4094).with(0, 77);
        rig.m.type(1);
        rig.step();
        check.equal("a half before the port: nothing is read", 1, rig.m.device(3));
        check.equal("D0 stays", 77, rig.get(0));
        rig = new Rig(Rig.move(Rig.WORD, Rig.at(0), Rig.d(0))).with(8, 4096).user();
        rig.m.type(1);
        rig.step();
        check.equal("the user reads nothing", 1, rig.m.device(3));
        rig = new Rig(Rig.move(Rig.LONG, Rig.d(0), Rig.SHORT_PLACE), 4098).user().with(0, -1);
        rig.step();
        check.equal("nor does he set the timer", 0, rig.m.device(0));
        rig = new Rig(Rig.move(Rig.BYTE, Rig.d(0), Rig.SHORT_PLACE), 4096).user();
        rig.step();
        check.equal("nor does he say anything", 0, rig.m.device(4));
        rig = new Rig(Rig.move(Rig.LONG, Rig.d(0), Rig.at(0))).with(8, -2).with(0, 0x11223344).write(0, 0x9999);
        rig.step();
        check.equal("a half round the end", 0x9999, rig.word(0));
    }

    private static void oneByOne(Check check) {
        Rig rig = new Rig(Rig.move(Rig.LONG, Rig.SHORT_PLACE, Rig.d(0)), 4096);
        rig.m.type(0x55);
        rig.m.type(0x66);
        rig.m.type(0x77);
        rig.step();
        check.equal("the byte is gone when they are counted", 0x55020000, rig.get(0));
        rig = new Rig(Rig.move(Rig.WORD, Rig.SHORT_PLACE, Rig.d(0)), 4096).with(0, -1);
        rig.step();
        check.equal("nothing typed, none counted", 0xFFFF0000, rig.get(0));
        rig = new Rig(Rig.move(Rig.LONG, Rig.d(0), Rig.SHORT_PLACE), 4098,
                Rig.move(Rig.LONG, Rig.SHORT_PLACE, Rig.d(1)), 4098).with(0, 0x12340600);
        rig.step();
        check.equal("all four are written: the timer", 0x1233, rig.m.device(0));
        check.equal("and its level", 6, rig.m.device(1));
        rig.step();
        check.equal("all four are read", 0x12330600, rig.get(1));
    }
}
