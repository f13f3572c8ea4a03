/** Conditions, branches, calls, returns, the STATUS, the stacks, bits and shifts: 3, 9, 11, 12, 13. */
public final class ControlTest {

    public static void main(String[] args) {
        Check check = new Check("ControlTest");
        conditions(check);
        branches(check);
        countingDown(check);
        callsAndReturns(check);
        links(check);
        status(check);
        others(check);
        singles(check);
        bits(check);
        shifts(check);
        shiftsOfOtherRegisters(check);
        shiftsInMemory(check);
        check.end();
    }

    private static boolean holds(int k, int flags) {
        boolean n = (flags & Rig.N) != 0;
        boolean z = (flags & Rig.Z) != 0;
        boolean v = (flags & Rig.V) != 0;
        boolean c = (flags & Rig.C) != 0;
        boolean[] even = {true, !c && !z, !c, !z, !v, !n, n == v, n == v && !z};
        return even[k / 2] == (k % 2 == 0);
    }

    private static void conditions(Check check) {
        for (int k = 0; k < 16; k++) {
            for (int flags = 0; flags < 32; flags++) {
                Rig rig = new Rig(Rig.op(9, k / 2, k % 2, 3, Rig.d(0))).with(0, 0x1234).flags(flags);
                check.equal("set by condition", 0, rig.step());
                check.equal("condition " + k + " with " + flags, holds(k, flags) ? 0x12FF : 0x1200, rig.get(0));
                check.equal("flags stay", flags, rig.flags());
                rig = new Rig(Rig.branch(k, 0x10)).flags(flags);
                check.equal("branch", 0, rig.step());
                int due = k == 1 || holds(k, flags) ? Rig.START + 0x12 : Rig.START + 2;
                check.equal("branch " + k + " with " + flags, due, rig.pc());
            }
        }
    }

    private static void branches(Check check) {
        int[][] rows = { // condition, lowest byte, next word, PC then (Z is 1)
            {0, 0x7F, 0, Rig.START + 2 + 0x7F}, {0, 0x80, 0, Rig.START + 2 - 0x80},
            {7, 0, 0x200, Rig.START + 2 + 0x200},
            {7, 0, 0xFFF0, Rig.START + 2 - 0x10}, {6, 0, 0x200, Rig.START + 4}, {6, 0x10, 0, Rig.START + 2},
            {0, 0xFF, 0, Rig.START + 1},
        };
        for (int[] row : rows) {
            Rig rig = new Rig(Rig.branch(row[0], row[1]), row[2]).flags(Rig.Z);
            check.equal("branch", 0, rig.step());
            check.equal("PC", row[3], rig.pc());
            check.equal("A7 stays", Rig.STACK, rig.get(15));
        }
        Rig rig = new Rig(Rig.branch(1, 0), 0x80);
        rig.step();
        check.equal("pushed: behind the instruction", Rig.START + 4, rig.longAt(Rig.STACK - 4));
        check.equal("from behind the first word", Rig.START + 0x82, rig.pc());
        rig = new Rig(Rig.branch(1, 0x20));
        rig.step();
        check.equal("pushed: behind the one word", Rig.START + 2, rig.longAt(Rig.STACK - 4));
        check.equal("A7", Rig.STACK - 4, rig.get(15));
    }

    private static void countingDown(Check check) {
        int[][] rows = { // condition, D3, D3 then, PC then (flags are 0)
            {1, 0x10002, 0x10001, Rig.START + 2 - 0x20}, {1, 0x10001, 0x10000, Rig.START + 2 - 0x20},
            {1, 0x10000, 0x1FFFF, Rig.START + 4}, {0, 5, 5, Rig.START + 4}, {6, 5, 5, Rig.START + 4},
            {7, 5, 4, Rig.START + 2 - 0x20},
        };
        for (int[] row : rows) {
            Rig rig = new Rig(Rig.op(9, row[0] / 2, row[0] % 2, 3, Rig.a(3)), -0x20).with(3, row[1]).with(11, 77);
            check.equal("count down", 0, rig.step());
            check.equal("D3", row[2], rig.get(3));
            check.equal("PC", row[3], rig.pc());
            check.equal("A3 stays", 77, rig.get(11));
        }
    }

    private static void callsAndReturns(Check check) {
        Rig rig = new Rig(Rig.three(26, Rig.from(0)), 0x10).with(8, 0x400).write(0x410, 0x3735).flags(9);
        check.equal("call", 0, rig.step());
        check.equal("PC", 0x410, rig.pc());
        check.equal("pushed", Rig.START + 4, rig.longAt(Rig.STACK - 4));
        check.equal("return", 0, rig.step());
        check.equal("PC again", Rig.START + 4, rig.pc());
        check.equal("A7 again", Rig.STACK, rig.get(15));
        rig = new Rig(Rig.three(27, Rig.LONG_PLACE), 0x1200, 0x0401);
        check.equal("jump to an odd place", 0, rig.step());
        check.equal("PC, as it is", 0x12000401, rig.pc());
        check.equal("nothing pushed", Rig.STACK, rig.get(15));
        rig = new Rig(Rig.three(26, Rig.at(7))).write(Rig.STACK, 0);
        rig.step();
        check.equal("A7 as it was is the place", Rig.STACK, rig.pc());
        rig = new Rig(0x3737).with(15, 0x700).write(0x700, 0xFFF5, 0x0012, 0x3456).with(Rig.STATUS, 0x2300);
        check.equal("return with flags", 0, rig.step());
        check.equal("flags alone", 0x2315, rig.get(Rig.STATUS));
        check.equal("PC", 0x123456, rig.pc());
        check.equal("A7", 0x706, rig.get(15));
        rig = new Rig(0x3733).with(15, 0x700).with(Rig.OTHER, 0x500).write(0x700, 0xD71F, 0x0012, 0x3456);
        check.equal("return from an exception", 0, rig.step());
        check.equal("STATUS", 0x871F, rig.get(Rig.STATUS));
        check.equal("PC", 0x123456, rig.pc());
        check.equal("A7 of the user", 0x500, rig.get(15));
        check.equal("the OTHER", 0x706, rig.get(Rig.OTHER));
        rig = new Rig(0x3733).with(15, 2046).write(2046, 0);
        check.equal("the long is open", 2, rig.step());
        check.equal("the word did not change the STATUS", 0x2700, rig.word(2046 - 6));
        check.equal("nor did pulling it change A7", 2046 - 14, rig.get(15));
        check.equal("overflow", 7, new Rig(0x3736).flags(Rig.V).step());
        check.equal("no overflow", 0, new Rig(0x3736).flags(29).step());
    }

    private static void links(Check check) {
        Rig rig = new Rig(0x3715, 0xFFF0, 0x371D).with(13, 0x12345678).flags(31);
        check.equal("link", 0, rig.step());
        check.equal("pushed", 0x12345678, rig.longAt(Rig.STACK - 4));
        check.equal("A5", Rig.STACK - 4, rig.get(13));
        check.equal("A7", Rig.STACK - 20, rig.get(15));
        check.equal("unlink", 0, rig.step());
        check.equal("A5 again", 0x12345678, rig.get(13));
        check.equal("A7 again", Rig.STACK, rig.get(15));
        check.equal("flags stay", 31, rig.flags());
        rig = new Rig(0x3717, 8, 0x371F);
        rig.step();
        check.equal("A7 as it was is pushed", Rig.STACK, rig.longAt(Rig.STACK - 4));
        check.equal("A7 has grown", Rig.STACK + 4, rig.get(15));
        rig.write(Rig.STACK + 4, 0x1111, 0x2222).step();
        check.equal("A7 is what is pulled", 0x11112222, rig.get(15));
    }

    private static void status(Check check) {
        Rig rig = new Rig(Rig.three(3, Rig.d(0)), Rig.three(3, Rig.at(0))).with(0, -1).with(8, 0x700).flags(21);
        rig.m.run(2);
        check.equal("STATUS to a D", 0xFFFF2715, rig.get(0));
        check.equal("STATUS to memory", 0x2715, rig.word(0x700));
        check.equal("flags stay", 21, rig.flags());
        rig = new Rig(Rig.three(7, Rig.NUMBER), 0xFFEA, Rig.three(11, Rig.NUMBER), 0x5FFF).with(Rig.OTHER, 99);
        rig.step();
        check.equal("FLAGS alone", 0x270A, rig.get(Rig.STATUS));
        rig.step();
        check.equal("all of it, without other bits", 0x071F, rig.get(Rig.STATUS));
        check.equal("A7 changed", 99, rig.get(15));
        int[][] rows = { // R, size, the word, STATUS then (0x2715 before)
            {0, 0, 0xFF0A, 0x271F}, {1, 0, 0x0011, 0x2711}, {5, 0, 0xFFFF, 0x270A},
            {0, 1, 0x800A, 0xA71F}, {1, 1, 0x2311, 0x2311}, {5, 1, 0xFFFF, 0x800A},
        };
        for (int[] row : rows) {
            rig = new Rig(Rig.op(12, row[0], 0, row[1], Rig.NUMBER), row[2]).flags(21);
            check.equal("with a number", 0, rig.step());
            check.equal("STATUS", row[3], rig.get(Rig.STATUS));
            check.equal("PC", Rig.START + 4, rig.pc());
        }
    }

    private static void others(Check check) {
        Rig rig = new Rig(0x3723, 0x372C, 0x3727, 0x372F).with(11, 123);
        rig.step();
        check.equal("the OTHER becomes A3", 123, rig.get(Rig.OTHER));
        rig.step();
        check.equal("A4 becomes the OTHER", 123, rig.get(12));
        rig.step();
        check.equal("the OTHER becomes A7", Rig.STACK, rig.get(Rig.OTHER));
        rig.with(Rig.OTHER, 5).step();
        check.equal("A7 becomes the OTHER", 5, rig.get(15));
    }

    private static void singles(Check check) {
        Rig rig = new Rig(Rig.three(20, Rig.d(2)), Rig.three(21, Rig.d(3)), Rig.three(22, Rig.d(3)))
                .with(2, 0x12348000).with(3, 0x12345680).flags(19);
        rig.step();
        check.equal("words change places", 0x80001234, rig.get(2));
        check.equal("N", 24, rig.flags());
        rig.step();
        check.equal("a byte to a word", 0x1234FF80, rig.get(3));
        rig.step();
        check.equal("a word to a long", 0xFFFFFF80, rig.get(3));
        check.equal("N, too", 24, rig.flags());
        rig = new Rig(Rig.three(22, Rig.d(3)), Rig.three(21, Rig.d(3))).with(3, 0x12340000);
        rig.step();
        check.equal("0 as a long", Rig.Z, rig.flags());
        rig.with(3, 0x1234FF00).step();
        check.equal("0 as a word", Rig.Z, rig.flags());
        check.equal("the rest stays", 0x12340000, rig.get(3));
        rig = new Rig(Rig.three(19, Rig.behind(0)), Rig.three(19, Rig.d(1))).with(8, 0x700).with(1, 0x180).flags(31);
        rig.step();
        check.equal("highest bit set", 0x80, rig.m.memory(0x700));
        check.equal("TESTED as it was", 20, rig.flags());
        rig.step();
        check.equal("it was set", 0x180, rig.get(1));
        check.equal("N", 24, rig.flags());
        check.equal("grown by one", 0x701, rig.get(8));
        rig = new Rig(Rig.three(19, Rig.at(0)), Rig.three(20, Rig.d(4))).with(8, 0x701).write(0x700, 0xFF01, 0xFFFF);
        rig.with(4, 0x80000001);
        check.equal("an odd byte", 0, rig.step());
        check.equal("the byte alone", 0xFF81, rig.word(0x700));
        rig.step();
        check.equal("words change places without signs", 0x00018000, rig.get(4));
        rig = new Rig(Rig.three(4, Rig.SHORT_PLACE), 4096, Rig.op(9, 0, 0, 3, Rig.SHORT_PLACE), 4096);
        rig.m.type(1);
        rig.m.run(2);
        check.equal("neither reads what it overwrites", 1, rig.m.device(3));
        check.equal("both say", 2, rig.m.device(4));
        check.equal("0 was said", 0, rig.m.said(0));
        check.equal("255 was said", 255, rig.m.said(1));
    }

    private static void bits(Check check) {
        int[] due = {0x80000000, 0x80000004, 0x80000000, 0x80000004};
        for (int z = 0; z < 4; z++) {
            Rig rig = new Rig(Rig.op(12, 1, 1, z, Rig.d(0))).with(0, 0x80000000).with(1, -30).flags(27);
            check.equal("by a register", 0, rig.step());
            check.equal("bit 2 of a D", due[z], rig.get(0));
            check.equal("it was 0, other flags stay", 31, rig.flags());
            rig = new Rig(Rig.op(12, 4, 0, z, Rig.d(0)), 63).with(0, 0x80000000).flags(31);
            rig.step();
            check.equal("bit 31 of a D", z == 1 || z == 2 ? 0 : 0x80000000, rig.get(0));
            check.equal("it was 1", 27, rig.flags());
            rig = new Rig(Rig.op(12, 4, 0, z, Rig.at(0)), 9).with(8, 0x701).write(0x700, 0xFFFD);
            rig.step();
            check.equal("bit 1 of a byte", z == 1 || z == 3 ? 0xFF : 0xFD, rig.m.memory(0x701));
            check.equal("it was 0", Rig.Z, rig.flags());
        }
        Rig rig = new Rig(Rig.op(12, 1, 1, 0, Rig.NUMBER), 0xFF04, Rig.op(12, 4, 1, 0, Rig.NUMBER), 0x0010)
                .with(1, 10).with(4, 4);
        rig.step();
        check.equal("a bit of a number", 0, rig.flags());
        rig.step();
        check.equal("by D4", 0, rig.flags());
        check.equal("PC", Rig.START + 8, rig.pc());
        rig = new Rig(Rig.op(12, 1, 1, 0, Rig.SHORT_PLACE), 0x10);
        rig.m.fence(0x100);
        check.equal("asking does not write", 0, rig.step());
    }

    private static void shifts(Check check) {
        int[][] rows = { // kind, left, size, n by D1 (or -1: 8, -2: 1), D0, flags, D0 then, flags then
            {0, 0, 0, -2, 0x181, 0, 0x1C0, 25}, {0, 0, 0, -1, 0x80, 0, 0xFF, 25}, {0, 0, 1, -2, 0x0001, 31, 0, 21},
            {0, 1, 0, -2, 0x40, 0, 0x80, 10}, {0, 1, 0, -2, 0xC0, 0, 0x80, 25}, {0, 1, 0, 2, 0x40, 0, 0, 23},
            {0, 1, 0, 3, 0xA0, 0, 0, 23}, {0, 1, 2, -2, 0x80000000, 0, 0, 23}, {0, 0, 2, 63, 0x80000000, 0, -1, 25},
            {1, 0, 0, -2, 0x81, 0, 0x40, 17}, {1, 1, 0, -2, 0x81, 0, 2, 17}, {1, 1, 1, 16, 0x10001, 0, 0x10000, 21},
            {1, 1, 1, 17, 0x10001, 31, 0x10000, 4}, {1, 0, 2, 32, 0x80000000, 0, 0, 21},
            {1, 1, 2, -2, 0x40000000, 0, 0x80000000, 8},
            {2, 0, 0, -2, 0x01, 16, 0x80, 25}, {2, 0, 0, -2, 0x01, 0, 0, 21}, {2, 1, 0, 9, 0xA5, 16, 0xA5, 25},
            {2, 1, 1, -2, 0x8000, 16, 1, 17}, {2, 1, 2, 33, 0x12345678, 0, 0x12345678, 0},
            {2, 0, 0, 64, 0x01, 16, 1, 17},
            {2, 0, 0, 0, 0x00, 3, 0, 4}, {3, 0, 0, -2, 0x01, 0, 0x80, 9}, {3, 1, 0, -1, 0x81, 16, 0x81, 25},
            {3, 1, 1, -2, 0x8000, 0, 1, 1}, {3, 0, 2, -2, 1, 16, 0x80000000, 25}, {3, 1, 0, 0, 0x80, 19, 0x80, 24},
            {0, 1, 0, 64, 0x1FF, 19, 0x1FF, 24}, {1, 0, 1, 0, 0, 31, 0, 20},
        };
        for (int[] row : rows) {
            boolean byRegister = row[3] >= 0;
            int upper = byRegister ? 1 : row[3] == -1 ? 0 : 1;
            int word = Rig.op(13, upper, row[1], row[2], (byRegister ? 32 : 0) | row[0] << 3);
            Rig rig = new Rig(word).with(0, row[4]).with(1, byRegister ? row[3] | 0xFFFFFF80 : -1).flags(row[5]);
            String what = "kind " + row[0] + " left " + row[1] + " size " + row[2] + " n " + row[3] + " of " + row[4];
            check.equal(what, 0, rig.step());
            check.equal(what + ": result", row[6], rig.get(0));
            check.equal(what + ": flags", row[7], rig.flags());
        }
    }

    private static void shiftsOfOtherRegisters(Check check) {
        Rig rig = new Rig(Rig.op(13, 3, 1, Rig.LONG, 1 << 3 | 7), Rig.op(13, 7, 0, Rig.WORD, 32 | 3 << 3 | 7))
                .with(7, 0x201);
        rig.step();
        check.equal("D7 by the number 3", 0x1008, rig.get(7));
        rig.step();
        check.equal("D7 by itself, 8", 0x0810, rig.get(7));
    }

    private static void shiftsInMemory(Check check) {
        int[][] rows = { // kind, left, the word, flags, the word then, flags then
            {0, 0, 0x8001, 0, 0xC000, 25}, {0, 1, 0x4000, 0, 0x8000, 10}, {1, 0, 0x8001, 0, 0x4000, 17},
            {1, 1, 0x8001, 0, 2, 17}, {2, 0, 1, 16, 0x8000, 25}, {2, 1, 0x8000, 0, 0, 21}, {3, 0, 1, 0, 0x8000, 9},
            {3, 1, 0x8000, 16, 1, 17},
        };
        for (int[] row : rows) {
            Rig rig = new Rig(Rig.op(13, row[0], row[1], 3, Rig.behind(0))).with(8, 0x700).write(0x700, row[2])
                    .flags(row[3]);
            check.equal("in memory", 0, rig.step());
            check.equal("kind " + row[0] + " left " + row[1], row[4], rig.word(0x700));
            check.equal("flags", row[5], rig.flags());
            check.equal("found once", 0x702, rig.get(8));
        }
    }
}
