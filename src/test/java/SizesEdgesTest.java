/** The document's Terms, on which promise 6 rests: sizes, registers, the stack, the STATUS, at their edges. */
public final class SizesEdgesTest {

    private static final String SIZES = "Promise 6, Terms, sizes and registers";
    private static final String STATUS = "Promise 6, Terms, THE STATUS";

    private static final int PUSH_FROM_A0 = Rig.three(20, Rig.at(0));
    private static final int RETURN = 0x3735;
    private static final int RETURN_WITH_FLAGS = 0x3737;

    public static void main(String[] args) {
        Check check = new Check("SizesEdgesTest");
        check.sentence(SIZES, "BYTES, WORDS and LONGS have 8, 16 and 32 bits", SizesEdgesTest::sizes);
        check.sentence(SIZES, "in memory the highest byte is first.", SizesEdgesTest::highestFirst);
        check.sentence(SIZES, "EXTENDED: a byte or word with its highest bit before it, as a long.",
                SizesEdgesTest::extended);
        check.sentence(SIZES, "are longs and count as such (wrapping)", SizesEdgesTest::wrapping);
        check.sentence(SIZES, "of a D a byte or word is its lowest one, the rest of it stays when that is written.",
                SizesEdgesTest::restStays);
        check.sentence(SIZES, "the state that is not on has one, too: the OTHER.", SizesEdgesTest::other);
        check.sentence(SIZES, "To PUSH a word or long: A7 becomes less by 2 or 4, then it is written there",
                SizesEdgesTest::pushing);
        check.sentence(SIZES, "to PULL one: it is read there, then A7 grows.", SizesEdgesTest::pulling);
        check.sentence(STATUS,
                "bit 15 T, 13 S (the supervisor's state is on), 8 .. 10 the MASK, 4 X, 3 N, 2 Z, 1 V, 0 C",
                SizesEdgesTest::statusBits);
        check.sentence(STATUS, "its other bits are 0 always.", SizesEdgesTest::otherBits);
        check.sentence(STATUS, "When S changes, A7 and the OTHER change places.", SizesEdgesTest::places);
        check.end();
    }

    private static void sizes(Check check) {
        int[] greatest = {0xFF, 0xFFFF, -1};
        for (int size = 0; size < 3; size++) {
            Rig rig = new Rig(Rig.op(9, 1, 0, size, Rig.d(0))).with(0, greatest[size]);
            rig.step();
            check.equal("one more than the greatest, size " + size, 0, rig.get(0));
            check.equal("is too large", Rig.X | Rig.Z | Rig.C, rig.flags());
            rig = new Rig(Rig.op(9, 1, 1, size, Rig.d(0)));
            rig.step();
            check.equal("one less than 0, size " + size, greatest[size], rig.get(0));
            check.equal("is too small", Rig.X | Rig.N | Rig.C, rig.flags());
        }
    }

    private static void highestFirst(Check check) {
        int[] read = {0x81, 0x8192, 0x8192A3B4};
        for (int size = 0; size < 3; size++) {
            Rig rig = new Rig(Rig.move(size, Rig.at(0), Rig.d(0))).with(8, 0x700).write(0x700, 0x8192, 0xA3B4);
            rig.step();
            check.equal("read, size " + size, read[size], rig.get(0));
        }
        int[] written = {0xB4000000, 0xA3B40000, 0x8192A3B4};
        for (int size = 0; size < 3; size++) {
            Rig rig = new Rig(Rig.move(size, Rig.d(0), Rig.at(0))).with(8, 0x700).with(0, 0x8192A3B4);
            rig.step();
            check.equal("written, size " + size, written[size], rig.longAt(0x700));
        }
    }

    private static void extended(Check check) {
        int[][] bytes = {{0, 0}, {0x7F, 0x7F}, {0x80, 0xFFFFFF80}, {0xFF, -1}};
        for (int[] row : bytes) {
            Rig rig = new Rig(Rig.op(14, 0, 0, 0, 0) | row[0]);
            rig.step();
            check.equal("byte " + row[0], row[1], rig.get(0));
        }
        int[][] words = {{0, 0}, {0x7FFF, 0x7FFF}, {0x8000, 0xFFFF8000}, {0xFFFF, -1}};
        for (int[] row : words) {
            Rig rig = new Rig(Rig.move(Rig.WORD, Rig.NUMBER, Rig.a(0)), row[0]);
            rig.step();
            check.equal("word " + row[0], row[1], rig.get(8));
        }
    }

    private static void wrapping(Check check) {
        Rig rig = new Rig(Rig.op(9, 1, 0, Rig.LONG, Rig.a(0)), Rig.op(9, 1, 1, Rig.LONG, Rig.a(0))).with(8, -1);
        rig.step();
        check.equal("an A above the greatest", 0, rig.get(8));
        rig.step();
        check.equal("an A below 0", -1, rig.get(8));
        rig = new Rig(Rig.op(4, 0, 1, 3, Rig.d(0))).with(8, 0x80000000).with(0, 0x80000001);
        rig.step();
        check.equal("a sum in an A", 1, rig.get(8));
        rig = new Rig(Rig.op(4, 0, 0, Rig.LONG, Rig.d(1))).with(0, 0x7FFFFFFF).with(1, 2);
        rig.step();
        check.equal("a sum in a D", 0x80000001, rig.get(0));
        rig = new Rig(Rig.branch(0, 0), 0xFE00);
        rig.step();
        check.equal("the PC below 0", Rig.START + 2 - 0x200, rig.pc());
        rig = new Rig(Rig.branch(0, 0), 0x7FFE).with(Rig.PC, 0xFF000000 | Rig.START);
        rig.step();
        check.equal("the PC with upper bits", 0xFF000000 + Rig.START + 0x8000, rig.pc());
        rig = new Rig(Rig.move(Rig.BYTE, Rig.from(0), Rig.d(0)), 0x0701).with(8, -1).write(0x700, 0x5A5B);
        check.equal("a place from an A on", 0, rig.step());
        check.equal("what is there", 0x5A, rig.get(0));
        rig = new Rig(Rig.move(Rig.BYTE, Rig.indexed(0), Rig.d(0)), 0x1802).with(8, 0x700).with(1, -1);
        rig.write(0x700, 0x5A5B);
        check.equal("an index", 0, rig.step());
        check.equal("what is there, too", 0x5B, rig.get(0));
        rig = new Rig(Rig.move(Rig.LONG, Rig.d(0), Rig.before(0))).with(8, 2).user();
        check.equal("an A that becomes less than 0", 2, rig.step());
        check.equal("counts modulo 2^24 on the bus", 0xFFFFFE, rig.longAt(Rig.STACK - 12));
        check.equal("and is as before", 2, rig.get(8));
    }

    private static void restStays(Check check) {
        int[] due = {0x112233EE, 0x1122DDEE, 0xBBCCDDEE};
        for (int size = 0; size < 3; size++) {
            Rig rig = new Rig(Rig.move(size, Rig.d(1), Rig.d(0))).with(0, 0x11223344).with(1, 0xBBCCDDEE);
            rig.step();
            check.equal("size " + size, due[size], rig.get(0));
            rig = new Rig(Rig.op(9, 1, 1, size, Rig.d(0))).with(0, 0x11000000);
            rig.step();
            int[] less = {0x110000FF, 0x1100FFFF, 0x10FFFFFF};
            check.equal("no borrow from the rest, size " + size, less[size], rig.get(0));
        }
        for (int r = 0; r < 8; r++) {
            Rig rig = new Rig(Rig.move(Rig.BYTE, Rig.NUMBER, Rig.d(r)), 0xEE, Rig.move(Rig.WORD, Rig.NUMBER,
                    Rig.d(r)), 0xDDEE);
            for (int what = 0; what < 8; what++) {
                rig.with(what, 0x11223344 + 0x01010100 * what);
            }
            rig.step();
            check.equal("the rest of D" + r + " beside a byte", 0x112233EE + 0x01010100 * r, rig.get(r));
            rig.step();
            check.equal("the rest of D" + r + " beside a word", 0x1122DDEE + 0x01010000 * r, rig.get(r));
            for (int what = 0; what < 8; what++) {
                check.that("D" + what + " stays", what == r || rig.get(what) == 0x11223344 + 0x01010100 * what);
            }
        }
    }

    private static void other(Check check) {
        Rig rig = new Rig(Rig.three(20, Rig.at(7))).with(Rig.OTHER, 0x500);
        rig.step();
        check.equal("the supervisor pushes on his own", Rig.STACK - 4, rig.get(15));
        check.equal("the user's stays", 0x500, rig.get(Rig.OTHER));
        rig = new Rig(Rig.three(20, Rig.at(7))).user();
        rig.step();
        check.equal("the user pushes on his own", Rig.USER_STACK - 4, rig.get(15));
        check.equal("the supervisor's stays", Rig.STACK, rig.get(Rig.OTHER));
    }

    // In the user's state the frame of an error is on another stack, so the end of this one can be seen.
    private static void pushing(Check check) {
        int[][] rows = {{4, 0, 0}, {2, 2, 0xFFFFFE}, {0, 2, 0xFFFFFC}, {2048, 0, 0}, {2050, 2, 2046}, {2052, 2, 2048},
            {0x405, 3, 0x401}, {0xAB000404, 0, 0}};
        for (int[] row : rows) {
            Rig rig = new Rig(PUSH_FROM_A0).with(8, 0x12345678).user().with(15, row[0]);
            check.equal("A7 at " + row[0], row[1], rig.step());
            if (row[1] == 0) {
                check.equal("A7 is 4 less", row[0] - 4, rig.get(15));
                check.equal("written there", 0x12345678, rig.longAt(row[0] - 4 & 0xFFFFFF));
            } else {
                check.equal("A7 is as before", row[0], rig.get(Rig.OTHER));
                check.equal("the place was less already", row[2], rig.longAt(Rig.STACK - 12));
            }
        }
        Rig word = new Rig(0x3700);
        word.step();
        check.equal("a long and a word: 6 less", Rig.STACK - 6, word.get(15));
        check.equal("the word lies below", 0x2700, word.word(Rig.STACK - 6));
    }

    private static void pulling(Check check) {
        int[][] rows = {{2044, 0, 0}, {2046, 2, 2046}, {2048, 2, 2048}, {0, 0, 0}, {0x403, 3, 0x403}, {-4, 2, 0xFFFFFC},
            {0xAB000400, 0, 0}};
        for (int[] row : rows) {
            Rig rig = new Rig(RETURN).user().with(15, row[0]);
            int place = row[0] & 0xFFFFFF;
            int there = row[1] == 0 ? rig.longAt(place) : 0;
            check.equal("A7 at " + row[0], row[1], rig.step());
            if (row[1] == 0) {
                check.equal("A7 has grown by 4", row[0] + 4, rig.get(15));
                check.equal("what was there", there, rig.pc());
            } else {
                check.equal("A7 is as before", row[0], rig.get(Rig.OTHER));
                check.equal("the place has not grown", row[2], rig.longAt(Rig.STACK - 12));
            }
        }
        Rig rig = new Rig(RETURN_WITH_FLAGS).user().with(15, 2042).write(2042, 31, 0x12, 0x3456);
        check.equal("a word and a long up to the end", 0, rig.step());
        check.equal("A7 has grown by 6", 2048, rig.get(15));
        check.equal("the long", 0x123456, rig.pc());
        rig = new Rig(RETURN_WITH_FLAGS).user().with(15, 2044).write(2044, 31, 0x12);
        check.equal("half the long is open", 2, rig.step());
        check.equal("A7 is as before both", 2044, rig.get(Rig.OTHER));
        check.equal("the flags, too", 0, rig.word(Rig.STACK - 6));
    }

    private static void statusBits(Check check) {
        check.equal("bit 15 is T", 9, new Rig(Rig.NOTHING).with(Rig.STATUS, 0xA000).step());
        check.equal("without it there is no trace", 0, new Rig(Rig.NOTHING).with(Rig.STATUS, 0x271F).step());
        check.equal("bit 13 is S", 0, new Rig(0x3730).with(Rig.STATUS, 0x2000).step());
        check.equal("without it it is privileged", 8, new Rig(0x3730).user().with(Rig.STATUS, 0x071F).step());
        for (int mask = 0; mask < 8; mask++) {
            Rig rig = new Rig(Rig.NOTHING).with(Rig.STATUS, 0x2000 | mask << 8);
            rig.m.level(mask);
            check.equal("bits 8 to 10 are the MASK " + mask, mask == 7 ? 31 : 0, rig.step());
        }
        int[][] flags = {{9, 1}, {11, 3}, {7, 2}, {5, 0}};
        for (int[] row : flags) {
            Rig rig = new Rig(Rig.op(9, row[0] / 2, row[0] % 2, 3, Rig.d(0))).with(Rig.STATUS, 0x2700 | 1 << row[1]);
            rig.step();
            check.equal("bit " + row[1] + " is the flag of condition " + row[0], 255, rig.get(0));
        }
        Rig chain = new Rig(Rig.op(4, 0, 1, 0, Rig.d(1))).with(Rig.STATUS, 0x2710);
        chain.step();
        check.equal("bit 4 is X", 1, chain.get(0));
    }

    private static void otherBits(Check check) {
        int[][] programs = {
            {Rig.three(11, Rig.NUMBER), 0xFFFF}, {0xC07C, 0xFFFF}, {0x3733}, {Rig.STOP, 0xFFFF},
        };
        for (int[] program : programs) {
            Rig rig = new Rig(program).with(15, 0x700).write(0x700, 0xFFFF);
            rig.step();
            check.equal("all bits that there are, by " + program[0], 0xA71F, rig.get(Rig.STATUS));
        }
        Rig turned = new Rig(0xCA7C, 0xFFFF);
        turned.step();
        check.equal("all turned", 0x801F, turned.get(Rig.STATUS));
        int[][] flags = {{Rig.three(7, Rig.NUMBER), 0xFFFF}, {0xC03C, 0xFFFF}, {0x3737}, {0xCA3C, 0xFFFF}};
        for (int[] program : flags) {
            Rig rig = new Rig(program).with(15, 0x700).write(0x700, 0xFFFF).with(Rig.STATUS, 0x2200);
            rig.step();
            check.equal("FLAGS alone, by " + program[0], 0x221F, rig.get(Rig.STATUS));
        }
        for (int bit = 0; bit < 16; bit++) {
            int due = (0xA71F >>> bit & 1) << bit;
            Rig rig = new Rig(Rig.three(11, Rig.NUMBER), 1 << bit);
            rig.step();
            check.equal("bit " + bit, due, rig.get(Rig.STATUS));
        }
    }

    private static void places(Check check) {
        int[][] programs = {
            {Rig.three(11, Rig.NUMBER), 0}, {0xC27C, 0xDFFF}, {0xCA7C, 0x2000}, {0x3733}, {Rig.STOP, 0},
        };
        for (int[] program : programs) {
            boolean pulls = program[0] == 0x3733;
            Rig rig = new Rig(program).with(Rig.OTHER, 0x500).write(Rig.STACK, 0);
            rig.step();
            check.equal("A7 becomes the OTHER by " + program[0], 0x500, rig.get(15));
            check.equal("the OTHER becomes A7", Rig.STACK + (pulls ? 6 : 0), rig.get(Rig.OTHER));
        }
        int[][] same = {
            {Rig.three(11, Rig.NUMBER), 0xA71F}, {0xC27C, 0x2000}, {0xCA7C, 0x871F}, {0xC07C, 0xFFFF}, {0x3733},
            {Rig.STOP, 0x2000},
        };
        for (int[] program : same) {
            boolean pulls = program[0] == 0x3733;
            Rig rig = new Rig(program).with(Rig.OTHER, 0x500).write(Rig.STACK, 0x2000);
            rig.step();
            check.equal("S stays 1, A7 stays by " + program[0], Rig.STACK + (pulls ? 6 : 0), rig.get(15));
            check.equal("S stays 1, the OTHER stays", 0x500, rig.get(Rig.OTHER));
        }
        Rig user = new Rig(0x3700).user();
        user.step();
        check.equal("S becomes 1 by an exception", Rig.STACK - 6, user.get(15));
        check.equal("the user's is the OTHER", Rig.USER_STACK, user.get(Rig.OTHER));
        Rig supervisor = new Rig(0x3700).with(Rig.OTHER, 0x500);
        supervisor.step();
        check.equal("S was 1 before", Rig.STACK - 6, supervisor.get(15));
        check.equal("the OTHER stays", 0x500, supervisor.get(Rig.OTHER));
    }
}
