/** The twelve ways to tell an operand, as sources and as targets; the kinds are told by LegalTest. */
public final class OperandTest {

    public static void main(String[] args) {
        Check check = new Check("OperandTest");
        registers(check);
        places(check);
        strides(check);
        index(check);
        fromPc(check);
        numbers(check);
        order(check);
        check.end();
    }

    private static Rig done(Check check, String what, Rig rig) {
        check.equal(what + ": answer", 0, rig.step());
        return rig;
    }

    private static void registers(Check check) {
        int[] due = {0x11223388, 0x11227788, 0x55667788};
        for (int size = 0; size < 3; size++) {
            Rig rig = new Rig(Rig.move(size, Rig.d(1), Rig.d(2))).with(1, 0x55667788).with(2, 0x11223344);
            done(check, "D to D", rig);
            check.equal("the rest stays, size " + size, due[size], rig.get(2));
        }
        Rig rig = done(check, "A to D", new Rig(Rig.move(Rig.WORD, Rig.a(3), Rig.d(0))).with(11, 0xABCD9876));
        check.equal("a word of an A", 0x9876, rig.get(0));
        rig = done(check, "A to D", new Rig(Rig.move(Rig.LONG, Rig.a(7), Rig.d(0))));
        check.equal("A7", Rig.STACK, rig.get(0));
    }

    private static void places(Check check) {
        int[][] words = {
            {Rig.at(2)}, {Rig.behind(2)}, {Rig.from(3), 0xFFF0}, {Rig.from(3), 0x7FFE},
            {Rig.SHORT_PLACE, 0x0700}, {Rig.LONG_PLACE, 0xAB00, 0x0700},
        };
        int[] third = {0, 0, 0x710, 0x700 - 0x7FFE, 0, 0};
        for (int i = 0; i < words.length; i++) {
            int[] program = words[i].clone();
            program[0] = Rig.move(Rig.LONG, words[i][0], Rig.d(0));
            Rig rig = new Rig(program).with(10, 0x700).with(11, third[i]).write(0x700, 0x1234, 0x5678);
            done(check, "read by way " + i, rig);
            check.equal("what is there, way " + i, 0x12345678, rig.get(0));
            check.equal("PC behind all words, way " + i, Rig.START + 2 * program.length, rig.pc());
            check.equal("A3 stays", third[i], rig.get(11));
            program[0] = Rig.move(Rig.LONG, Rig.d(0), words[i][0]);
            rig = new Rig(program).with(10, 0x700).with(11, third[i]).with(0, 0x89ABCDEF);
            done(check, "written by way " + i, rig);
            check.equal("what was written, way " + i, 0x89ABCDEF, rig.longAt(0x700));
        }
        Rig rig = done(check, "a short place", new Rig(Rig.move(Rig.BYTE, Rig.SHORT_PLACE, Rig.d(0)), 0x0107));
        check.equal("lower half of the word", rig.m.memory(0x107), rig.get(0));
        check.equal("EXTENDED", 2, new Rig(Rig.move(Rig.BYTE, Rig.SHORT_PLACE, Rig.d(0)), 0x8000).step());
    }

    private static void strides(Check check) {
        int[] due = {1, 2, 4};
        for (int size = 0; size < 3; size++) {
            for (int r = 6; r < 8; r++) {
                int stride = size == 0 && r == 7 ? 2 : due[size];
                Rig rig = new Rig(Rig.move(size, Rig.behind(r), Rig.d(0))).with(8 + r, 0x700);
                rig.write(0x700, 0xA1A2, 0xA3A4);
                done(check, "behind", rig);
                check.equal("grown, size " + size + " A" + r, 0x700 + stride, rig.get(8 + r));
                check.equal("read where it was", new int[] {0xA1, 0xA1A2, 0xA1A2A3A4}[size], rig.get(0));
                rig = new Rig(Rig.move(size, Rig.d(0), Rig.before(r))).with(8 + r, 0x704).with(0, 0x11223344);
                done(check, "before", rig);
                check.equal("less, size " + size + " A" + r, 0x704 - stride, rig.get(8 + r));
                check.equal("written there", new int[] {0x44, 0x33, 0x11}[size], rig.m.memory(0x704 - stride));
            }
        }
        Rig rig = new Rig(Rig.three(4, Rig.behind(7))).with(15, 0x700);
        done(check, "clear a byte", rig);
        check.equal("two for A7", 0x702, rig.get(15));
    }

    private static void index(Check check) {
        int[][] rows = { // the word, the register, its value, the place from 0x600 on
            {0x1010, 1, 0xFFFF0020, 0x630}, // D1, its word
            {0x1810, 1, 0x00000020, 0x630}, // D1 as a whole
            {0x9010, 9, 0x5555FFF0, 0x600}, // A1, its word, below 0
            {0x9890, 9, 0x01000100, 0x690}, // A1 as a whole, byte below 0
            {0xF700, 15, 0x00000040, 0x640}, // A7, bits 8 to 10 do not count
            {0x607F, 6, 0, 0x67F}, // D6
            {0x1001, 1, 0x12340020, 0x621}, // its lowest bit does not tell that it is a whole
        };
        for (int[] row : rows) {
            Rig rig = new Rig(Rig.move(Rig.BYTE, Rig.indexed(4), Rig.d(0)), row[0]).with(12, 0x600)
                    .with(row[1], row[2]);
            rig.write(row[3] & ~1, 0x7777);
            done(check, "index " + row[0], rig);
            check.equal("what is there", 0x77, rig.get(0) & 255);
            rig = new Rig(Rig.op(14, 2, 1, 0, Rig.indexed(4)), row[0]).with(12, 0x600).with(row[1], row[2]);
            done(check, "address of index " + row[0], rig);
            check.equal("modulo 2^24", row[3], rig.get(10) & 0xFFFFFF);
        }
    }

    private static void fromPc(Check check) {
        Rig rig = new Rig(Rig.move(Rig.WORD, Rig.FROM_PC, Rig.d(0)), 6, 0, 0, 0xCAFE);
        done(check, "from the PC", rig);
        check.equal("the place of the word counts", 0xCAFE, rig.get(0));
        rig = new Rig(Rig.move(Rig.WORD, Rig.FROM_PC_INDEXED, Rig.d(0)), 0x10FE, 0xCAFE).with(1, 4);
        done(check, "from the PC by an index", rig);
        check.equal("the place of the word counts, too", 0xCAFE, rig.get(0));
        rig = new Rig(Rig.op(14, 1, 1, 0, Rig.FROM_PC), 0xFFFE, Rig.op(14, 2, 1, 0, Rig.SHORT_PLACE), 0x8002);
        done(check, "before the PC", rig);
        check.equal("EXTENDED, from the PC", Rig.START, rig.get(9));
        done(check, "a short place", rig);
        check.equal("EXTENDED as a place", 0xFFFF8002, rig.get(10));
        rig = new Rig(Rig.op(12, 4, 0, 0, Rig.FROM_PC), 3, 4, 0, 0x0800);
        done(check, "behind a number", rig);
        check.equal("its own place counts", 0, rig.flags() & Rig.Z);
    }

    private static void numbers(Check check) {
        Rig rig = new Rig(Rig.move(Rig.BYTE, Rig.NUMBER, Rig.d(0)), 0xFF12).with(0, -1);
        done(check, "a byte", rig);
        check.equal("lower half", 0xFFFFFF12, rig.get(0));
        rig = new Rig(Rig.move(Rig.WORD, Rig.NUMBER, Rig.d(0)), 0xFF12);
        done(check, "a word", rig);
        check.equal("all of it", 0xFF12, rig.get(0));
        rig = new Rig(Rig.move(Rig.LONG, Rig.NUMBER, Rig.d(0)), 0xFF12, 0x3456);
        done(check, "a long", rig);
        check.equal("two words", 0xFF123456, rig.get(0));
        check.equal("PC", Rig.START + 6, rig.pc());
    }

    private static void order(Check check) {
        Rig rig = new Rig(Rig.move(Rig.WORD, Rig.behind(0), Rig.behind(0))).with(8, 0x700).write(0x700, 0x1111);
        done(check, "both behind", rig);
        check.equal("the second place", 0x1111, rig.word(0x702));
        check.equal("twice", 0x704, rig.get(8));
        rig = new Rig(Rig.move(Rig.LONG, Rig.a(0), Rig.before(0))).with(8, 0x700);
        done(check, "a source is read before", rig);
        check.equal("A0 as it was", 0x700, rig.longAt(0x6FC));
        rig = new Rig(Rig.move(Rig.WORD, Rig.behind(1), Rig.from(1)), 4).with(9, 0x700).write(0x700, 0x2222);
        done(check, "changed before the target is found", rig);
        check.equal("from the new A1", 0x2222, rig.word(0x706));
        rig = new Rig(Rig.move(Rig.LONG, Rig.SHORT_PLACE, Rig.SHORT_PLACE), 0x720, 0x730).write(0x720, 1, 2);
        done(check, "words of the source first", rig);
        check.equal("moved", 0x10002, rig.longAt(0x730));
        rig = new Rig(Rig.op(12, 3, 0, Rig.WORD, Rig.SHORT_PLACE), 5, 0x720).write(0x720, 1);
        done(check, "the number before the operand's words", rig);
        check.equal("sum", 6, rig.word(0x720));
    }
}
