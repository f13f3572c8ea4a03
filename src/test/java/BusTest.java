/** Accesses: addresses modulo 2^24, address errors, bus errors, the fence (promise 4), and the frames of group 0. */
public final class BusTest {

    public static void main(String[] args) {
        Check check = new Check("BusTest");
        wrapping(check);
        errors(check);
        nothingBehindAnError(check);
        fence(check);
        frame(check);
        frameOfTheFirstWord(check);
        frameOfALaterWord(check);
        frameOfTheUser(check);
        check.end();
    }

    private static void wrapping(Check check) {
        Rig rig = new Rig(Rig.move(Rig.WORD, Rig.at(0), Rig.at(1))).with(8, 0xFF000300).with(9, 0x7F000700);
        rig.write(0x300, 0xBEEF);
        check.equal("upper bytes of addresses do not count", 0, rig.step());
        check.equal("moved", 0xBEEF, rig.word(0x700));
        Rig pc = new Rig(Rig.NOTHING).with(Rig.PC, 0xAB000000 | Rig.START);
        check.equal("nor those of the PC", 0, pc.step());
        check.equal("the PC keeps them", 0xAB000000 | Rig.START + 2, pc.pc());
    }

    private static int answer(int size, int place) {
        return new Rig(Rig.move(size, Rig.at(0), Rig.d(0))).with(8, place).step();
    }

    private static void errors(Check check) {
        check.equal("byte, odd", 0, answer(Rig.BYTE, 0x301));
        check.equal("word, odd", 3, answer(Rig.WORD, 0x301));
        check.equal("long, odd", 3, answer(Rig.LONG, 0x301));
        check.equal("odd and open: an address error", 3, answer(Rig.WORD, 2049));
        check.equal("last byte", 0, answer(Rig.BYTE, 2047));
        check.equal("first open one", 2, answer(Rig.BYTE, 2048));
        check.equal("last word", 0, answer(Rig.WORD, 2046));
        check.equal("last long", 0, answer(Rig.LONG, 2044));
        check.equal("half a long", 2, answer(Rig.LONG, 2046));
        check.equal("before the devices", 2, answer(Rig.BYTE, 4095));
        check.equal("half before the devices", 2, answer(Rig.LONG, 4094));
        check.equal("first device", 0, answer(Rig.BYTE, 4096));
        check.equal("last device", 0, answer(Rig.BYTE, 4103));
        check.equal("last word of devices", 0, answer(Rig.WORD, 4102));
        check.equal("behind the devices", 2, answer(Rig.BYTE, 4104));
        check.equal("before 0", 2, answer(Rig.WORD, -2));
        check.equal("a long round the end", 2, answer(Rig.LONG, -2));
    }


    private static void nothingBehindAnError(Check check) {
        Rig rig = new Rig(Rig.move(Rig.BYTE, Rig.SHORT_PLACE, Rig.SHORT_PLACE), Rig.OPEN_PLACE, 4096);
        check.equal("an open source", 2, rig.step());
        check.equal("nothing is said behind it", 0, rig.m.device(4));
        rig = new Rig(Rig.move(Rig.WORD, Rig.at(0), Rig.SHORT_PLACE), 0x700).with(8, 1).write(0x700, 0x1234);
        check.equal("an odd source", 3, rig.step());
        check.equal("nothing is written behind it", 0x1234, rig.word(0x700));
        rig = new Rig(Rig.op(4, 0, 1, Rig.BYTE, Rig.a(1))).with(8, 4097).with(9, Rig.OPEN_PLACE);
        rig.m.type(1);
        check.equal("an open source in chain", 2, rig.step());
        check.equal("nothing is read behind it", 1, rig.m.device(3));
        rig = new Rig(Rig.three(22, Rig.at(0)), 0x0003).with(8, 0x3FE).with(1, -1);
        rig.m.fence(0x400);
        check.equal("the first of many is below the fence", 2, rig.step());
        check.equal("the second is not written", 0, rig.longAt(0x402));
        check.equal("the address of the first is pushed", 0x3FE, rig.longAt(Rig.STACK - 12));
        rig = new Rig(Rig.STOP).with(Rig.PC, 2046).write(2046, Rig.STOP);
        check.equal("no word to stop with", 2, rig.step());
        check.equal("not STOPPED", 0, rig.m.state());
    }

    private static void fence(Check check) {
        for (int size = 0; size < 3; size++) {
            check.equal("at the fence", 0, fenced(size, 0x400, 0x400));
            check.equal("below it", 2, fenced(size, 0x3FC, 0x400));
        }
        check.equal("first byte below an odd one", 2, fenced(Rig.WORD, 0x400, 0x401));
        check.equal("byte at an odd one", 0, fenced(Rig.BYTE, 0x401, 0x401));
        check.equal("upper half of a long below", 2, fenced(Rig.LONG, 0x400, 0x402));
        check.equal("all of memory is below", 2, fenced(Rig.BYTE, 2047, 0x800));
        check.equal("address error first", 3, fenced(Rig.WORD, 0x3FD, 0x400));
        Rig rig = new Rig(Rig.move(Rig.BYTE, Rig.SHORT_PLACE, Rig.SHORT_PLACE), 0x10, 4096);
        rig.m.fence(0x500);
        check.equal("reading below it, and writing a device", 0, rig.step());
        rig = new Rig(Rig.NOTHING, 0x3700);
        rig.m.fence(2048);
        check.equal("no frame can be pushed", 2, rig.m.run(5));
        check.equal("so it is HALTED", 2, rig.m.state());
    }

    private static int fenced(int size, int place, int fence) {
        Rig rig = new Rig(Rig.move(size, Rig.d(0), Rig.at(0))).with(8, place).with(0, 0x55555555);
        int was = rig.m.memory(place);
        rig.m.fence(fence);
        int answer = rig.step();
        return rig.m.memory(place) == (answer == 0 ? 0x55 : was) ? answer : -9;
    }

    private static void frame(Check check) {
        int word = Rig.move(Rig.LONG, Rig.behind(0), Rig.at(1));
        Rig rig = new Rig(word).with(8, 0x300).with(9, 0x12000BB8).flags(Rig.X | Rig.V);
        check.equal("bus error in writing", 2, rig.step());
        check.equal("14 bytes", Rig.STACK - 14, rig.get(15));
        check.equal("the PC of the instruction", Rig.START, rig.longAt(Rig.STACK - 4));
        check.equal("STATUS before", 0x2712, rig.word(Rig.STACK - 6));
        check.equal("first word", word, rig.word(Rig.STACK - 8));
        check.equal("address modulo 2^24", 0x0BB8, rig.longAt(Rig.STACK - 12));
        check.equal("writing, S", 4, rig.word(Rig.STACK - 14));
        check.equal("A0 is as before", 0x300, rig.get(8));
        check.equal("STATUS now", 0x2712, rig.get(Rig.STATUS));
        check.equal("PC", Rig.handler(2), rig.pc());
        rig = new Rig(Rig.move(Rig.WORD, Rig.before(0), Rig.d(0))).with(8, 0x303);
        check.equal("address error in reading", 3, rig.step());
        check.equal("its address", 0x301, rig.longAt(Rig.STACK - 12));
        check.equal("reading, S", 5, rig.word(Rig.STACK - 14));
        check.equal("A0 is as before the instruction", 0x303, rig.get(8));
        check.equal("counted", 1, rig.m.counted(3));
    }

    private static void frameOfTheFirstWord(Check check) {
        Rig rig = new Rig(Rig.NOTHING).with(Rig.STATUS, 0xA700);
        rig.m.run(1);
        rig.with(Rig.PC, 0x05000101);
        check.equal("an odd PC", 3, rig.step());
        int end = rig.get(15);
        check.equal("PC as it was", 0x05000101, rig.longAt(end + 10));
        check.equal("no first word could be read", 0, rig.word(end + 6));
        check.equal("address", 0x101, rig.longAt(end + 2));
        check.equal("reading, of an instruction, S", 7, rig.word(end));
        rig.with(Rig.PC, 2048);
        check.equal("an open PC", 2, rig.step());
    }

    private static void frameOfALaterWord(Check check) {
        Rig rig = new Rig().write(2046, Rig.move(Rig.LONG, Rig.NUMBER, Rig.d(0))).with(Rig.PC, 2046).with(0, 3);
        check.equal("the second word is open", 2, rig.step());
        check.equal("first word", Rig.move(Rig.LONG, Rig.NUMBER, Rig.d(0)), rig.word(Rig.STACK - 8));
        check.equal("address", 2048, rig.longAt(Rig.STACK - 12));
        check.equal("reading, of an instruction, S", 7, rig.word(Rig.STACK - 14));
        check.equal("PC of the instruction", 2046, rig.longAt(Rig.STACK - 4));
        check.equal("D0 as before", 3, rig.get(0));
    }

    private static void frameOfTheUser(Check check) {
        Rig rig = new Rig(Rig.move(Rig.WORD, Rig.SHORT_PLACE, Rig.d(0)), 4096).user().flags(Rig.C);
        check.equal("a device for the user", 2, rig.step());
        check.equal("reading, no S", 1, rig.word(Rig.STACK - 14));
        check.equal("STATUS of the user", 1, rig.word(Rig.STACK - 6));
        check.equal("user's stack is the OTHER", Rig.USER_STACK, rig.get(Rig.OTHER));
        check.equal("supervisor's stack", Rig.STACK - 14, rig.get(15));
        rig = new Rig().user().with(Rig.PC, 4096);
        check.equal("an instruction in a device for the user", 2, rig.step());
        check.equal("reading, of an instruction, no S", 3, rig.word(Rig.STACK - 14));
        rig = new Rig().with(Rig.PC, 4096);
        rig.m.type(0x37);
        check.equal("an instruction in a device for the supervisor: 0x3700", 32, rig.step());
        check.equal("typed byte is gone", 0, rig.m.device(3));
    }
}
