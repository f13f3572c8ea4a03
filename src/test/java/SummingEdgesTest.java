/** The document's THE INSTRUCTIONS, on which promise 6 rests: 4 to 10 and 15, at their edges. */
public final class SummingEdgesTest {

    private static final String SUMS = "Promise 6, THE INSTRUCTIONS, 4 and 5";
    private static final String SIX = "Promise 6, THE INSTRUCTIONS, 6";
    private static final String JOINS = "Promise 6, THE INSTRUCTIONS, 7 and 8";
    private static final String NINE = "Promise 6, THE INSTRUCTIONS, 9";

    public static void main(String[] args) {
        Check check = new Check("SummingEdgesTest");
        check.sentence(SUMS, "D 1: DR and OPEN MEMORY e to e", SummingEdgesTest::toMemory);
        check.sentence(SUMS, "M 1: what is at AR and at Ar, both with M 4, Ar first, IN CHAIN to the former.",
                SummingEdgesTest::chains);
        check.sentence(SUMS, "z 3: AR and ANY e (D 0 a word, EXTENDED; 1 a long) to AR, without flags.",
                SummingEdgesTest::toAddress);
        check.sentence(SUMS, "(In 5 the second one is taken away from the first, e from DR, DR from e.)",
                SummingEdgesTest::whichFromWhich);
        check.sentence(SIX, "z 3: AR, as a long, with ANY e (D 0 a word, EXTENDED; 1 a long).",
                SummingEdgesTest::compareAddress);
        check.sentence(SIX, "M 1: what is at AR is COMPARED with what is at Ar, both with M 3, Ar first",
                SummingEdgesTest::compareMemory);
        check.sentence(SIX, "else OPEN DATA e becomes e ^ DR, TESTED.", SummingEdgesTest::exclusive);
        check.sentence(JOINS, "z < 3, D 0: DR with DATA e to DR; D 1: DR with OPEN MEMORY e to e, both TESTED.",
                SummingEdgesTest::joins);
        check.sentence(JOINS,
                "or with M 1 what is at AR and Ar, both with M 4, Ar first: 7 adds, 8 takes the second away from "
                + "the first, IN TENS, to the first.",
                SummingEdgesTest::tensInMemory);
        check.sentence(JOINS, "7, z 1: DR and Dr, or with M 1 AR and Ar, change places; z 2, M 1: DR and Ar.",
                SummingEdgesTest::exchanges);
        check.sentence(JOINS,
                "DR becomes its lowest word times DATA e, a word, both without signs (D 0) or with (1), TESTED "
                + "as a long.",
                SummingEdgesTest::products);
        check.sentence(JOINS, "if e is 0, exception 5", SummingEdgesTest::byZero);
        check.sentence(JOINS, "if the quotient does not fit a word (of that sort), V becomes 1, C 0",
                SummingEdgesTest::doesNotFit);
        check.sentence(JOINS,
                "otherwise DR's lowest word becomes the quotient (cut towards 0), its other one the rest, and "
                + "the quotient is TESTED.",
                SummingEdgesTest::quotients);
        check.sentence(NINE, "R, or 8 if that is 0, is ADDED (D 0) to OPEN ANY e, or TAKEN AWAY (1)",
                SummingEdgesTest::quick);
        check.sentence(NINE, "for an A as a long, without flags.", SummingEdgesTest::quickToAddress);
        check.sentence(NINE,
                "unless k holds, Dr's word becomes 1 less, and if it is not 65535 then, the PC p + w EXTENDED",
                SummingEdgesTest::countDown);
        check.sentence(NINE, "else OPEN DATA e, a byte, becomes 255 if k holds, otherwise 0 (it is not read).",
                SummingEdgesTest::setByCondition);
        check.sentence("Promise 6, THE INSTRUCTIONS, 10 and 15", "10 and 15: exceptions 10 and 11.",
                SummingEdgesTest::notThere);
        check.end();
    }

    private static void toMemory(Check check) {
        int[] due = {0x00FFFFFF, 0x0000FFFF, 0};
        for (int size = 0; size < 3; size++) {
            Rig rig = new Rig(Rig.op(4, 0, 1, size, Rig.behind(0))).with(0, 1).with(8, 0x700)
                    .write(0x700, 0xFFFF, 0xFFFF);
            rig.step();
            check.equal("one more than the greatest, size " + size, due[size], rig.longAt(0x700));
            check.equal("flags", Rig.X | Rig.Z | Rig.C, rig.flags());
            check.equal("found once", 0x700 + (1 << size), rig.get(8));
            check.equal("D0 stays", 1, rig.get(0));
        }
        Rig fenced = new Rig(Rig.op(4, 0, 1, 1, Rig.at(0))).with(8, 0x3FE);
        fenced.m.fence(0x400);
        check.equal("below the fence", 2, fenced.step());
    }

    private static void chains(Check check) {
        int[][] due = {{0x0909090D, 0x09090C0D, 0x0C0C0C0D}, {0x09090905, 0x09090605, 0x06060605}};
        for (int group = 4; group < 6; group++) {
            for (int size = 0; size < 3; size++) {
                Rig rig = new Rig(Rig.op(group, 1, 1, size, Rig.a(2))).with(9, 0x704).with(10, 0x714).flags(Rig.X);
                rig.write(0x700, 0x0909, 0x0909).write(0x710, 0x0303, 0x0303);
                check.equal("answer", 0, rig.step());
                check.equal("AR", 0x704 - (1 << size), rig.get(9));
                check.equal("Ar", 0x714 - (1 << size), rig.get(10));
                check.equal("the latter stays", 0x03030303, rig.longAt(0x710));
                check.equal("to the former, group " + group + ", size " + size, due[group - 4][size],
                        rig.longAt(0x700));
            }
        }
        Rig same = new Rig(Rig.op(5, 1, 1, Rig.BYTE, Rig.a(1))).with(9, 0x702).write(0x700, 0x0903);
        same.step();
        check.equal("with one register twice: 9 - 3", 0x0603, same.word(0x700));
        check.equal("it is less twice", 0x700, same.get(9));
        Rig stack = new Rig(Rig.op(4, 7, 1, Rig.BYTE, Rig.a(7))).with(15, 0x704).write(0x700, 0x0100, 0x0200);
        stack.step();
        check.equal("bytes of A7, two each", 0x700, stack.get(15));
        check.equal("their sum", 3, stack.m.memory(0x700));
        Rig first = new Rig(Rig.op(4, 0, 1, Rig.WORD, Rig.a(1))).with(8, 3001).with(9, 3002);
        check.equal("Ar first", 2, first.step());
        check.equal("its place", 3000, first.longAt(Rig.STACK - 12));
        Rig zero = new Rig(Rig.op(4, 0, 1, Rig.WORD, Rig.a(1))).with(8, 2).with(9, 4);
        check.equal("down to 0", 0, zero.step());
        check.equal("A0", 0, zero.get(8));
    }

    private static void toAddress(Check check) {
        int[][] rows = {{0x12347FFF, 0x7FFF}, {0x12348000, -0x8000}, {0xFFFF, -1}, {0x10000, 0}};
        for (int[] row : rows) {
            for (int group = 4; group < 6; group++) {
                int sign = group == 4 ? 1 : -1;
                Rig rig = new Rig(Rig.op(group, 1, 0, 3, Rig.d(0)), Rig.op(group, 2, 1, 3, Rig.d(0)))
                        .with(9, 0x7FFFFFFF).with(10, 0x7FFFFFFF).with(0, row[0]).flags(31);
                rig.m.run(2);
                check.equal("a word EXTENDED", 0x7FFFFFFF + sign * row[1], rig.get(9));
                check.equal("a long", 0x7FFFFFFF + sign * row[0], rig.get(10));
                check.equal("without flags", 31, rig.flags());
            }
        }
        Rig zero = new Rig(Rig.op(5, 1, 1, 3, Rig.a(1))).with(9, 5);
        zero.step();
        check.equal("0", 0, zero.get(9));
        check.equal("no Z", 0, zero.flags());
    }

    private static void whichFromWhich(Check check) {
        Rig rig = new Rig(Rig.op(5, 0, 0, Rig.BYTE, Rig.d(1)), Rig.op(5, 0, 1, Rig.BYTE, Rig.at(0)), Rig.op(5, 0, 1,
                Rig.BYTE, Rig.d(1)))
                .with(0, 9).with(1, 3).with(8, 0x700).write(0x700, 0x1000);
        rig.step();
        check.equal("e from DR", 6, rig.get(0));
        rig.step();
        check.equal("DR from e", 10, rig.m.memory(0x700));
        rig.step();
        check.equal("Dr from DR in chain", 3, rig.get(0));
        check.equal("Dr stays", 3, rig.get(1));
        Rig borrow = new Rig(Rig.op(5, 0, 0, Rig.BYTE, Rig.d(1))).with(0, 3).with(1, 9);
        borrow.step();
        check.equal("a borrow", 0xFA, borrow.get(0));
        check.equal("flags", Rig.X | Rig.N | Rig.C, borrow.flags());
    }

    private static void compareAddress(Check check) {
        int[][] rows = { // AR, D0, flags by a word, flags by a long (X was 1)
            {0xFFFF8000, 0x00008000, 20, 24}, {0x8000, 0x8000, 17, 20}, {0x7FFF, 0x7FFF, 20, 20}, {0, 0x10000, 20, 25},
            {0x80000000, 1, 18, 18}, {0, 0xFFFF, 17, 25}, {-1, 0xFFFF, 20, 24},
        };
        for (int[] row : rows) {
            for (int bit = 0; bit < 2; bit++) {
                Rig rig = new Rig(Rig.op(6, 1, bit, 3, Rig.d(0))).with(9, row[0]).with(0, row[1]).flags(Rig.X);
                rig.step();
                check.equal("AR " + row[0] + " with " + row[1] + ", D " + bit, row[2 + bit], rig.flags());
                check.equal("AR stays", row[0], rig.get(9));
            }
        }
    }

    private static void compareMemory(Check check) {
        int[][] rows = {{5, 6, Rig.N | Rig.C}, {6, 5, 0}, {5, 5, Rig.Z}};
        for (int[] row : rows) {
            for (int size = 0; size < 3; size++) {
                Rig rig = new Rig(Rig.op(6, 1, 1, size, Rig.a(2))).with(9, 0x700).with(10, 0x710);
                rig.write(0x700, row[0] << 8, 0).write(0x710, row[1] << 8, 0);
                rig.step();
                check.equal("what is at AR less what is at Ar, size " + size, row[2], rig.flags());
                check.equal("AR grows", 0x700 + (1 << size), rig.get(9));
                check.equal("Ar grows", 0x710 + (1 << size), rig.get(10));
                check.equal("nothing is written", row[0] << 8, rig.word(0x700));
            }
        }
        Rig same = new Rig(Rig.op(6, 1, 1, Rig.BYTE, Rig.a(1))).with(9, 0x700).write(0x700, 0x0304);
        same.step();
        check.equal("with one register twice: 4 with 3", 0, same.flags());
        check.equal("grows twice", 0x702, same.get(9));
        Rig stack = new Rig(Rig.op(6, 7, 1, Rig.BYTE, Rig.a(7))).with(15, 0x700);
        stack.step();
        check.equal("bytes of A7, two each", 0x704, stack.get(15));
        Rig end = new Rig(Rig.op(6, 1, 1, Rig.BYTE, Rig.a(2))).with(9, 2047).with(10, 2047);
        check.equal("the last byte", 0, end.step());
        Rig first = new Rig(Rig.op(6, 1, 1, Rig.BYTE, Rig.a(2))).with(9, 3001).with(10, 3000);
        check.equal("Ar first", 2, first.step());
        check.equal("its place", 3000, first.longAt(Rig.STACK - 12));
    }

    private static void exclusive(Check check) {
        for (int size = 0; size < 3; size++) {
            int mask = size == 2 ? -1 : (1 << (8 << size)) - 1;
            int[][] rows = {{-1, -1, Rig.Z}, {-1, 0, Rig.N}, {0x55555555, 0x2A2A2A2A, 0}, {0, 0, Rig.Z}};
            for (int[] row : rows) {
                Rig rig = new Rig(Rig.op(6, 1, 1, size, Rig.d(0))).with(0, row[0]).with(1, row[1])
                        .flags(Rig.X | Rig.V | Rig.C);
                rig.step();
                check.equal("result, size " + size, row[0] & ~mask | (row[0] ^ row[1]) & mask, rig.get(0));
                check.equal("flags, size " + size, row[2] | Rig.X, rig.flags());
            }
        }
        Rig itself = new Rig(Rig.op(6, 1, 1, Rig.LONG, Rig.d(1))).with(1, 0x1234);
        itself.step();
        check.equal("with itself", 0, itself.get(1));
    }

    private static void joins(Check check) {
        for (int size = 0; size < 3; size++) {
            int mask = size == 2 ? -1 : (1 << (8 << size)) - 1;
            int[][] rows = {{-1, 0}, {-1, -1}, {0, 0}, {0x7F7F7F7F, 0x80808080}, {0x12345678, 0x0F0F0F0F}};
            for (int[] row : rows) {
                for (int group = 7; group < 9; group++) {
                    int joined = group == 7 ? row[0] & row[1] : row[0] | row[1];
                    int due = row[0] & ~mask | joined & mask;
                    int highest = joined >>> (8 << size) - 1 & 1;
                    int flags = Rig.X | highest * Rig.N | ((joined & mask) == 0 ? Rig.Z : 0);
                    Rig rig = new Rig(Rig.op(group, 0, 0, size, Rig.d(1))).with(0, row[0]).with(1, row[1]).flags(31);
                    rig.step();
                    check.equal("to DR, group " + group + ", size " + size, due, rig.get(0));
                    check.equal("flags", flags, rig.flags());
                    rig = new Rig(Rig.op(group, 1, 1, size, Rig.at(0))).with(8, 0x700).with(1, row[1]).flags(31);
                    rig.write(0x700, row[0] >>> 16 & 0xFFFF, row[0] & 0xFFFF);
                    rig.step();
                    int shift = 32 - (8 << size);
                    int other = row[1] << shift;
                    int inMemory = group == 7 ? row[0] & (other | (1 << shift) - 1) : row[0] | other;
                    check.equal("to e, group " + group + ", size " + size, size == 2 ? joined : inMemory,
                            rig.longAt(0x700));
                }
            }
        }
    }

    private static void tensInMemory(Check check) {
        Rig rig = new Rig(Rig.op(7, 1, 1, 0, Rig.a(2)), Rig.op(8, 1, 1, 0, Rig.a(2))).with(9, 0x702).with(10, 0x712);
        rig.write(0x700, 0x5099).write(0x710, 0x4901);
        rig.step();
        check.equal("99 and 1", 0x5000, rig.word(0x700));
        check.equal("X and C", Rig.X | Rig.C, rig.flags());
        rig.step();
        check.equal("50 less 49 less X", 0, rig.word(0x700));
        check.equal("nothing is left over", 0, rig.flags());
        check.equal("AR", 0x700, rig.get(9));
        check.equal("Ar", 0x710, rig.get(10));
        check.equal("the latter stays", 0x4901, rig.word(0x710));
        Rig same = new Rig(Rig.op(8, 1, 1, 0, Rig.a(1))).with(9, 0x702).write(0x700, 0x0903);
        same.step();
        check.equal("with one register twice: 9 less 3", 0x0603, same.word(0x700));
        Rig stack = new Rig(Rig.op(7, 7, 1, 0, Rig.a(7))).with(15, 0x704).write(0x700, 0x0100, 0x0200);
        stack.step();
        check.equal("bytes of A7, two each", 0x700, stack.get(15));
        check.equal("their sum", 3, stack.m.memory(0x700));
        for (int group = 7; group < 9; group++) {
            Rig first = new Rig(Rig.op(group, 0, 1, 0, Rig.a(1))).with(8, 3005).with(9, 3001);
            check.equal("Ar first", 2, first.step());
            check.equal("its place", 3000, first.longAt(Rig.STACK - 12));
        }
    }

    private static void exchanges(Check check) {
        Rig rig = new Rig(Rig.op(7, 0, 1, 1, Rig.d(7)), Rig.op(7, 0, 1, 1, Rig.a(7)), Rig.op(7, 0, 1, 2, Rig.a(0)),
                Rig.op(7, 3, 1, 1, Rig.d(3)), Rig.op(7, 3, 1, 1, Rig.a(3))).flags(31);
        rig.with(0, 100).with(7, -107).with(8, 108).with(3, 103).with(11, 111);
        rig.step();
        check.equal("D0", -107, rig.get(0));
        check.equal("D7", 100, rig.get(7));
        rig.step();
        check.equal("A0", Rig.STACK, rig.get(8));
        check.equal("A7", 108, rig.get(15));
        rig.step();
        check.equal("D0 and A0", Rig.STACK, rig.get(0));
        check.equal("A0 and D0", -107, rig.get(8));
        rig.m.run(2);
        check.equal("a D with itself", 103, rig.get(3));
        check.equal("an A with itself", 111, rig.get(11));
        check.equal("flags stay", 31, rig.flags());
        check.equal("z 2 with M 0 is none", 4, new Rig(Rig.op(7, 0, 1, 2, Rig.d(0))).step());
    }

    private static void products(Check check) {
        int[][] rows = { // D, DR, e, DR then, flags then (31 before)
            {0, 0xFFFFFFFF, 0xFFFF, 0xFFFE0001, 24}, {0, 0x8000, 2, 0x10000, 16}, {0, 0x10000, 0xFFFF, 0, 20},
            {0, 0xFFFF, 1, 0xFFFF, 16}, {0, 0x8000, 0x8000, 0x40000000, 16}, {0, 0xFFFF, 0x8001, 0x80007FFF, 24},
            {1, 0x1234FFFF, 0xFFFF, 1, 16}, {1, 0x8000, 0x8000, 0x40000000, 16}, {1, 0x7FFF, 0x8000, 0xC0008000, 24},
            {1, 0x7FFF, 0x7FFF, 0x3FFF0001, 16}, {1, 0xFFFF, 1, -1, 24}, {1, 0, 0xFFFF, 0, 20},
        };
        for (int[] row : rows) {
            Rig rig = new Rig(Rig.op(7, 2, row[0], 3, Rig.NUMBER), row[2]).with(2, row[1]).flags(31);
            check.equal("times", 0, rig.step());
            String what = Integer.toHexString(row[1]) + " times " + Integer.toHexString(row[2]) + ", D " + row[0];
            check.equal(what, row[3], rig.get(2));
            check.equal(what + ": flags", row[4], rig.flags());
        }
        Rig itself = new Rig(Rig.op(7, 2, 0, 3, Rig.d(2))).with(2, 0x10003);
        itself.step();
        check.equal("with itself", 9, itself.get(2));
    }

    private static void byZero(Check check) {
        for (int bit = 0; bit < 2; bit++) {
            for (int number : new int[] {0, 1, -1, 0x80000000}) {
                Rig rig = new Rig(Rig.op(8, 2, bit, 3, Rig.behind(0))).with(8, 0x700).with(2, number).flags(31);
                check.equal("by 0", 5, rig.step());
                check.equal("DR stays", number, rig.get(2));
                check.equal("flags stay", 31, rig.flags());
                check.equal("the source was found", 0x702, rig.get(8));
                check.equal("PC of the next", Rig.START + 2, rig.longAt(Rig.STACK - 4));
            }
        }
        Rig word = new Rig(Rig.op(8, 2, 0, 3, Rig.d(1))).with(1, 0x10000).with(2, 7);
        check.equal("only the lowest word counts", 5, word.step());
    }

    private static void doesNotFit(Check check) {
        int[][] rows = { // D, DR, e, whether it fits
            {0, 0xFFFF, 1, 1}, {0, 0x10000, 1, 0}, {0, 0xFFFEFFFF, 0xFFFF, 1}, {0, 0xFFFF0000, 0xFFFF, 0},
            {0, -1, 0xFFFF, 0},
            {0, 0x80000000, 1, 0}, {0, 0x1FFFF, 2, 1}, {0, 0x20000, 2, 0},
            {1, 32767, 1, 1}, {1, 32768, 1, 0}, {1, -32768, 1, 1}, {1, -32769, 1, 0}, {1, 32768, -1, 1},
            {1, 32769, -1, 0},
            {1, -32767, -1, 1}, {1, -32768, -1, 0}, {1, 0x80000000, -1, 0}, {1, 0x80000000, 0x8000, 0},
            {1, 0x7FFFFFFF, 0x7FFF, 0},
            {1, 65535, 2, 1}, {1, 65536, 2, 0}, {1, -65537, 2, 1}, {1, -65538, 2, 0}, {1, 0x40000000, 0x8000, 1},
        };
        for (int[] row : rows) {
            for (int before : new int[] {0, 31}) {
                Rig rig = new Rig(Rig.op(8, 2, row[0], 3, Rig.NUMBER), row[2]).with(2, row[1]).flags(before);
                String what = row[1] + " by " + row[2] + ", D " + row[0];
                check.equal(what, 0, rig.step());
                if (row[3] == 0) {
                    check.equal(what + ": DR stays", row[1], rig.get(2));
                    check.equal(what + ": V 1, C 0, the others stay", before & ~Rig.C | Rig.V, rig.flags());
                } else {
                    check.equal(what + ": V and C 0", 0, rig.flags() & (Rig.V | Rig.C));
                }
            }
        }
    }

    private static void quotients(Check check) {
        int[][] rows = { // D, DR, e, DR then, flags then (31 before)
            {0, 100, 7, 0x0002000E, 16}, {0, 0xFFFEFFFF, 0xFFFF, 0xFFFEFFFF, 24}, {0, 3, 5, 0x00030000, 20},
            {0, 0, 5, 0, 20},
            {0, 0xFFFF, 1, 0xFFFF, 24}, {0, 0x8000, 0x8000, 1, 16}, {0, 0x7FFF, 0x8000, 0x7FFF0000, 20},
            {1, -100, 7, 0xFFFEFFF2, 24}, {1, 100, -7, 0x0002FFF2, 24}, {1, -100, -7, 0xFFFE000E, 16},
            {1, -32768, 1, 0x8000, 24},
            {1, 32768, -1, 0x8000, 24}, {1, -3, 5, 0xFFFD0000, 20}, {1, -1, 2, 0xFFFF0000, 20},
            {1, 32767, 1, 0x7FFF, 16},
            {1, -65537, 2, 0xFFFF8000, 24},
        };
        for (int[] row : rows) {
            Rig rig = new Rig(Rig.op(8, 2, row[0], 3, Rig.NUMBER), row[2]).with(2, row[1]).flags(31);
            String what = row[1] + " by " + row[2] + ", D " + row[0];
            check.equal(what, 0, rig.step());
            check.equal(what + ": rest and quotient", row[3], rig.get(2));
            check.equal(what + ": flags", row[4], rig.flags());
        }
    }

    private static void quick(Check check) {
        for (int r = 0; r < 8; r++) {
            int number = r == 0 ? 8 : r;
            Rig rig = new Rig(Rig.op(9, r, 0, Rig.LONG, Rig.d(0)), Rig.op(9, r, 1, Rig.LONG, Rig.d(1)))
                    .with(0, -number).with(1, number);
            rig.step();
            check.equal("added " + number, 0, rig.get(0));
            check.equal("too large", Rig.X | Rig.Z | Rig.C, rig.flags());
            rig.step();
            check.equal("taken away " + number, 0, rig.get(1));
            check.equal("no borrow", Rig.Z, rig.flags());
        }
        Rig memory = new Rig(Rig.op(9, 0, 0, Rig.BYTE, Rig.behind(0)), Rig.op(9, 0, 1, Rig.WORD, Rig.before(1)));
        memory.with(8, 0x700).with(9, 0x712).write(0x700, 0x7877).write(0x710, 7);
        memory.step();
        check.equal("a byte too large for a sign", 0x8077, memory.word(0x700));
        check.equal("V", Rig.N | Rig.V, memory.flags());
        memory.step();
        check.equal("a borrow", 0xFFFF, memory.word(0x710));
        check.equal("C", Rig.X | Rig.N | Rig.C, memory.flags());
    }

    private static void quickToAddress(Check check) {
        int[][] rows = {{0xFFFF, 0x10007, 0xFFF7}, {-1, 7, -9}, {0, 8, -8}, {0x7FFFFFFF, 0x80000007, 0x7FFFFFF7}};
        for (int[] row : rows) {
            for (int size = 1; size < 3; size++) {
                Rig rig = new Rig(Rig.op(9, 0, 0, size, Rig.a(0)), Rig.op(9, 0, 1, size, Rig.a(1)))
                        .with(8, row[0]).with(9, row[0]).flags(15);
                rig.m.run(2);
                check.equal("8 more, size " + size, row[1], rig.get(8));
                check.equal("8 less, size " + size, row[2], rig.get(9));
                check.equal("without flags", 15, rig.flags());
            }
        }
        check.equal("not as a byte", 4, new Rig(Rig.op(9, 1, 0, Rig.BYTE, Rig.a(0))).step());
    }

    private static void countDown(Check check) {
        int[][] rows = { // k, D3, way, D3 then, PC then (flags are 0)
            {1, 2, 0x20, 1, Rig.START + 2 + 0x20}, {1, 1, 0xFFFE, 0, Rig.START}, {1, 0, 0x20, 0xFFFF, Rig.START + 4},
            {1, 0x10000, 0x20, 0x1FFFF, Rig.START + 4}, {1, 0xFFFF, 0x20, 0xFFFE, Rig.START + 2 + 0x20},
            {1, -1, 0x7FFE, 0xFFFFFFFE, Rig.START + 2 + 0x7FFE}, {1, 0x8000, 0x8000, 0x7FFF, Rig.START + 2 - 0x8000},
            {0, 5, 0x20, 5, Rig.START + 4}, {0, 0, 0x20, 0, Rig.START + 4}, {6, 5, 0x20, 5, Rig.START + 4},
            {7, 5, 0x20, 4, Rig.START + 2 + 0x20},
        };
        for (int[] row : rows) {
            Rig rig = new Rig(Rig.op(9, row[0] / 2, row[0] % 2, 3, Rig.a(3)), row[2]).with(3, row[1]).with(11, 77);
            String what = "k " + row[0] + ", D3 " + row[1];
            check.equal(what, 0, rig.step());
            check.equal(what + ": D3", row[3], rig.get(3));
            check.equal(what + ": PC", row[4], rig.pc());
            check.equal(what + ": A3 stays", 77, rig.get(11));
            check.equal(what + ": flags stay", 0, rig.flags());
        }
    }

    private static void setByCondition(Check check) {
        for (int k = 0; k < 2; k++) {
            Rig rig = new Rig(Rig.op(9, 0, k, 3, Rig.d(0)), Rig.op(9, 0, k, 3, Rig.SHORT_PLACE), 4096)
                    .with(0, 0x12345678).flags(31);
            rig.m.type(1);
            rig.m.run(2);
            int due = k == 0 ? 255 : 0;
            check.equal("a byte of a D", 0x12345600 | due, rig.get(0));
            check.equal("said", due, rig.m.said(0));
            check.equal("not read", 1, rig.m.device(3));
            check.equal("flags stay", 31, rig.flags());
            Rig moving = new Rig(Rig.op(9, 0, k, 3, Rig.behind(7))).with(15, 0x700);
            moving.step();
            check.equal("a byte's is 2 for A7", 0x702, moving.get(15));
        }
    }

    private static void notThere(Check check) {
        int[][] rows = {{0xA000, 10}, {0xAFFF, 10}, {0xF000, 11}, {0xFFFF, 11}, {0xA5A5, 10}, {0xF5A5, 11}};
        for (int[] row : rows) {
            Rig rig = new Rig(row[0]).flags(21);
            check.equal("word " + Integer.toHexString(row[0]), row[1], rig.step());
            check.equal("PC of it", Rig.START, rig.longAt(Rig.STACK - 4));
            check.equal("user, too", row[1], new Rig(row[0]).user().step());
        }
        check.that("9 is there", new Rig(0x9FC0).step() == 0);
        check.that("11 is there", new Rig(0xB002).step() == 0);
        check.that("14 is there", new Rig(0xE000).step() == 0);
    }
}
