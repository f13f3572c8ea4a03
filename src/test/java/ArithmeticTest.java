/** Sums, differences, comparisons, chains, tens, products, quotients and their flags: 3, 4, 5, 6, 7, 8, 9, 12. */
public final class ArithmeticTest {

    private static final int ADD = 4;
    private static final int SUBTRACT = 5;

    public static void main(String[] args) {
        Check check = new Check("ArithmeticTest");
        adding(check);
        takingAway(check);
        comparing(check);
        inChain(check);
        inTens(check);
        toMemory(check);
        toAddress(check);
        quick(check);
        byNumber(check);
        negating(check);
        products(check);
        quotients(check);
        check.end();
    }

    /** Rows of: size, D0, D1, flags before, D0 then, flags then; the instruction changes D0 by D1. */
    private static void rows(Check check, String what, int word, int[][] rows) {
        for (int[] row : rows) {
            Rig rig = new Rig(word | row[0] << 6).with(0, row[1]).with(1, row[2]).flags(row[3]);
            String text = what + " " + Integer.toHexString(row[1]) + ", " + Integer.toHexString(row[2])
                    + " size " + row[0];
            check.equal(text, 0, rig.step());
            check.equal(text + ": result", row[4], rig.get(0));
            check.equal(text + ": flags", row[5], rig.flags());
            check.equal(text + ": D1 stays", row[2], rig.get(1));
        }
    }

    private static void adding(Check check) {
        rows(check, "add", Rig.op(ADD, 0, 0, 0, Rig.d(1)), new int[][] {
            {0, 0x1201, 0x3402, 31, 0x1203, 0},
            {0, 0x7F, 0x01, 0, 0x80, 10},
            {0, 0xFF, 0x01, 0, 0x00, 21},
            {0, 0x80, 0x80, 0, 0x00, 23},
            {0, 0xFE, 0xFF, 0, 0xFD, 25},
            {1, 0x10007FFF, 1, 0, 0x10008000, 10},
            {1, 0x1000FFFF, 0x70001, 0, 0x10000000, 21},
            {2, 0x7FFFFFFF, 1, 0, 0x80000000, 10},
            {2, -1, 1, 0, 0, 21},
            {2, 0x80000000, 0x80000000, 0, 0, 23},
            {2, 5, 6, 31, 11, 0},
        });
    }

    private static void takingAway(Check check) {
        rows(check, "take away", Rig.op(SUBTRACT, 0, 0, 0, Rig.d(1)), new int[][] {
            {0, 0x1205, 0x3402, 31, 0x1203, 0},
            {0, 0x00, 0x01, 0, 0xFF, 25},
            {0, 0x80, 0x01, 0, 0x7F, 2},
            {0, 0x7F, 0xFF, 0, 0x80, 27},
            {0, 0x33, 0x33, 31, 0x00, 4},
            {1, 0x18000, 1, 0, 0x17FFF, 2},
            {1, 0, 0x8000, 0, 0x8000, 27},
            {2, 0, 1, 0, -1, 25},
            {2, 0x80000000, 1, 0, 0x7FFFFFFF, 2},
            {2, 0, 0x80000000, 0, 0x80000000, 27},
        });
    }

    private static void comparing(Check check) {
        rows(check, "compare", Rig.op(6, 0, 0, 0, Rig.d(1)), new int[][] {
            {0, 0x05, 0x05, 31, 0x05, 20},
            {0, 0x00, 0x01, 16, 0x00, 25},
            {0, 0x00, 0x01, 0, 0x00, 9},
            {1, 0x8000, 1, 0, 0x8000, 2},
            {2, 9, 8, 15, 9, 0},
        });
        Rig rig = new Rig(Rig.op(6, 1, 1, Rig.WORD, Rig.a(2))).with(9, 0x700).with(10, 0x710).write(0x700, 5)
                .write(0x710, 6);
        check.equal("memory with memory", 0, rig.step());
        check.equal("what is at AR less what is at Ar", Rig.N | Rig.C, rig.flags());
        check.equal("AR grows", 0x702, rig.get(9));
        check.equal("Ar grows", 0x712, rig.get(10));
        rig = new Rig(Rig.op(6, 1, 1, Rig.BYTE, Rig.a(1))).with(9, 0x700).write(0x700, 0x0304);
        rig.step();
        check.equal("Ar is first: 4 with 3", 0, rig.flags());
        check.equal("grows twice", 0x702, rig.get(9));
        rig = new Rig(Rig.op(6, 1, 0, 3, Rig.d(0)), Rig.op(6, 1, 1, 3, Rig.d(0))).with(9, 0x8000).with(0, 0x12348000);
        rig.step();
        check.equal("AR as a long with a word EXTENDED", Rig.C, rig.flags());
        rig.step();
        check.equal("AR with a long", Rig.N | Rig.C, rig.flags());
        rig = new Rig(Rig.op(6, 1, 0, 3, Rig.behind(1))).with(9, 0x702).write(0x702, 0x0704);
        rig.step();
        check.equal("AR as it has grown", Rig.Z, rig.flags());
    }

    private static void inChain(Check check) {
        rows(check, "add in chain", Rig.op(ADD, 0, 1, 0, Rig.d(1)), new int[][] {
            {0, 1, 2, 16, 4, 0},
            {0, 0xFF, 0, 16, 0, 17},
            {0, 0xFF, 0, 20, 0, 21},
            {0, 0x7F, 0, 16, 0x80, 10},
            {0, 0, 0, 4, 0, 4},
            {1, 0xFFFF, 0xFFFF, 20, 0xFFFF, 25},
            {2, 0x7FFFFFFF, 0, 16, 0x80000000, 10},
            {2, -1, -1, 16, -1, 25},
        });
        rows(check, "take away in chain", Rig.op(SUBTRACT, 0, 1, 0, Rig.d(1)), new int[][] {
            {0, 5, 2, 16, 2, 0},
            {0, 0, 0, 20, 0xFF, 25},
            {0, 1, 0, 20, 0, 4},
            {0, 1, 0, 16, 0, 0},
            {0, 0x80, 0, 16, 0x7F, 2},
            {1, 0, 0xFFFF, 16, 0, 17},
            {2, 0x80000000, 0x7FFFFFFF, 16, 0, 2},
        });
        Rig rig = new Rig(Rig.op(SUBTRACT, 1, 1, Rig.WORD, Rig.a(2))).with(9, 0x702).with(10, 0x712).flags(16);
        rig.write(0x700, 9).write(0x710, 3);
        check.equal("in memory", 0, rig.step());
        check.equal("to the former", 5, rig.word(0x700));
        check.equal("the latter stays", 3, rig.word(0x710));
        check.equal("AR", 0x700, rig.get(9));
        check.equal("Ar", 0x710, rig.get(10));
        rig = new Rig(Rig.op(ADD, 7, 1, Rig.BYTE, Rig.a(7))).with(15, 0x704).write(0x700, 0x0100, 0x0200);
        rig.step();
        check.equal("bytes of A7, two each", 0x700, rig.get(15));
        check.equal("sum", 0x03, rig.m.memory(0x700));
    }

    private static void inTens(Check check) {
        rows(check, "add in tens", Rig.op(7, 0, 1, 0, Rig.d(1)), new int[][] {
            {0, 0x12319, 0x28, 0, 0x12347, 0},
            {0, 0x99, 0x01, 4, 0x00, 21},
            {0, 0x99, 0x01, 0, 0x00, 17},
            {0, 0x45, 0x54, 16, 0x00, 17},
            {0, 0x50, 0x49, 0, 0x99, 8},
            {0, 0x0F, 0x0F, 2, 0x24, 0},
            {0, 0xFF, 0xFF, 16, 0x65, 17},
            {0, 0x4F, 0x4A, 0, 0x9F, 8},
            {0, 0x50, 0x50, 4, 0x00, 21},
        });
        rows(check, "take away in tens", Rig.op(8, 0, 1, 0, Rig.d(1)), new int[][] {
            {0, 0x47, 0x28, 0, 0x19, 0},
            {0, 0x00, 0x01, 4, 0x99, 25},
            {0, 0x30, 0x29, 20, 0x00, 4},
            {0, 0x30, 0x30, 0, 0x00, 0},
            {0, 0x10, 0x20, 2, 0x90, 25},
        });
        Rig rig = new Rig(Rig.op(7, 1, 1, 0, Rig.a(2)), Rig.op(8, 1, 1, 0, Rig.a(2))).with(9, 0x702).with(10, 0x712);
        rig.write(0x700, 0x5019).write(0x710, 0x1208);
        rig.step();
        check.equal("sum in memory", 0x27, rig.m.memory(0x701));
        rig.step();
        check.equal("difference in memory", 0x38, rig.m.memory(0x700));
        check.equal("AR", 0x700, rig.get(9));
        check.equal("Ar", 0x710, rig.get(10));
    }

    private static void toMemory(Check check) {
        Rig rig = new Rig(Rig.op(ADD, 0, 1, Rig.WORD, Rig.at(0)), Rig.op(SUBTRACT, 0, 1, Rig.BYTE, Rig.behind(0)),
                Rig.op(7, 0, 1, Rig.LONG, Rig.before(1)), Rig.op(8, 0, 1, Rig.WORD, Rig.SHORT_PLACE), 0x720,
                Rig.op(6, 0, 1, Rig.BYTE, Rig.SHORT_PLACE), 0x720);
        rig.with(0, 0x10F).with(8, 0x700).with(9, 0x714).write(0x700, 1).write(0x710, -1, -1).write(0x720, 0x8000);
        rig.step();
        check.equal("added to memory", 0x110, rig.word(0x700));
        rig.step();
        check.equal("DR away from e", 0xF210, rig.word(0x700));
        check.equal("borrow", 25, rig.flags());
        check.equal("grown once", 0x701, rig.get(8));
        rig.step();
        check.equal("and", 0x10F, rig.longAt(0x710));
        check.equal("less once", 0x710, rig.get(9));
        check.equal("TESTED, X stays", 16, rig.flags());
        rig.step();
        check.equal("or", 0x810F, rig.word(0x720));
        check.equal("N", 24, rig.flags());
        rig.step();
        check.equal("exclusive", 0x8E0F, rig.word(0x720));
        check.equal("N, too", 24, rig.flags());
        logic(check);
    }

    private static void logic(Check check) {
        rows(check, "and", Rig.op(7, 0, 0, 0, Rig.d(1)), new int[][] {
            {0, 0x12F0, 0x0F, 31, 0x1200, 20}, {1, 0x1F0F0, 0xFF00, 0, 0x1F000, 8},
            {2, 0x7FFFFFFF, -1, 3, 0x7FFFFFFF, 0},
        });
        rows(check, "or", Rig.op(8, 0, 0, 0, Rig.d(1)), new int[][] {
            {0, 0x12F0, 0x0F, 31, 0x12FF, 24}, {1, 0x10000, 0, 0, 0x10000, 4}, {2, 1, 2, 3, 3, 0},
        });
        Rig rig = new Rig(Rig.op(6, 1, 1, Rig.BYTE, Rig.d(0))).with(0, 0x1255).with(1, 0xAA).flags(19);
        rig.step();
        check.equal("exclusive to a D", 0x12FF, rig.get(0));
        check.equal("its flags", 24, rig.flags());
    }

    private static void toAddress(Check check) {
        Rig rig = new Rig(Rig.op(ADD, 1, 0, 3, Rig.d(0)), Rig.op(SUBTRACT, 1, 1, 3, Rig.d(0)),
                Rig.op(ADD, 1, 0, 3, Rig.behind(1)), Rig.op(SUBTRACT, 1, 0, 3, Rig.NUMBER), 0xFFFF)
                .with(9, 0x700).with(0, 0x8FFFE).write(0x6FE, 5).flags(31);
        rig.step();
        check.equal("a word EXTENDED", 0x6FE, rig.get(9));
        rig.step();
        check.equal("a long", 0x6FE - 0x8FFFE, rig.get(9));
        rig.with(9, 0x6FE).step();
        check.equal("AR as it has grown", 0x705, rig.get(9));
        rig.step();
        check.equal("minus -1", 0x706, rig.get(9));
        check.equal("without flags", 31, rig.flags());
    }

    private static void quick(Check check) {
        rows(check, "add 8", Rig.op(9, 0, 0, 0, Rig.d(0)), new int[][] {
            {0, 0x1FF, 0, 0, 0x107, 17}, {1, 0x7FF8, 0, 0, 0x8000, 10}, {2, -8, 0, 0, 0, 21},
        });
        rows(check, "take 3 away", Rig.op(9, 3, 1, 0, Rig.d(0)), new int[][] {
            {0, 0x103, 0, 31, 0x100, 4}, {1, 2, 0, 0, 0xFFFF, 25}, {2, 0x80000000, 0, 0, 0x7FFFFFFD, 2},
        });
        Rig rig = new Rig(Rig.op(9, 1, 0, Rig.WORD, Rig.a(0)), Rig.op(9, 0, 1, Rig.LONG, Rig.a(0)),
                Rig.op(9, 7, 0, Rig.WORD, Rig.behind(1))).with(8, 0xFFFF).with(9, 0x700).write(0x700, 0xFFF9).flags(15);
        rig.step();
        check.equal("an A as a long", 0x10000, rig.get(8));
        rig.step();
        check.equal("an A less 8", 0xFFF8, rig.get(8));
        check.equal("without flags", 15, rig.flags());
        rig.step();
        check.equal("in memory", 0, rig.word(0x700));
        check.equal("flags", 21, rig.flags());
        check.equal("found once", 0x702, rig.get(9));
        rig = new Rig(Rig.op(9, 2, 1, Rig.WORD, Rig.a(7)));
        rig.step();
        check.equal("A7 less 2", Rig.STACK - 2, rig.get(15));
    }

    private static void byNumber(Check check) {
        int[][] rows = { // R, size, D0, the number (words), D0 then, flags then (31 before)
            {0, 0, 0x100, 0xFF80, 0x180, 24}, {1, 0, 0x1FF, 0x0F, 0x10F, 16}, {5, 0, 0xFF, 0xFF, 0, 20},
            {2, 0, 5, 0xFF06, 0xFF, 25}, {3, 0, 0x7F, 1, 0x80, 10}, {6, 0, 5, 5, 5, 20},
            {0, 1, 0, 0x8000, 0x8000, 24}, {1, 1, 0x1FFFF, 0xF0F0, 0x1F0F0, 24}, {5, 1, 0xAAAA, 0x5555, 0xFFFF, 24},
            {2, 1, 0x8000, 1, 0x7FFF, 2}, {3, 1, 0xFFFF, 1, 0, 21}, {6, 1, 4, 5, 4, 25},
        };
        for (int[] row : rows) {
            Rig rig = new Rig(Rig.op(12, row[0], 0, row[1], Rig.d(0)), row[3]).with(0, row[2]).flags(31);
            String what = "number " + row[3] + ", R " + row[0];
            check.equal(what, 0, rig.step());
            check.equal(what + ": result", row[4], rig.get(0));
            check.equal(what + ": flags", row[5], rig.flags());
        }
        Rig rig = new Rig(Rig.op(12, 3, 0, Rig.LONG, Rig.behind(0)), 0x7FFF, 0xFFFF).with(8, 0x700).write(0x700, 0, 1);
        rig.step();
        check.equal("a long in memory", 0x80000000, rig.longAt(0x700));
        check.equal("its flags", 10, rig.flags());
        check.equal("PC", Rig.START + 6, rig.pc());
        rig = new Rig(Rig.op(12, 6, 0, Rig.WORD, Rig.SHORT_PLACE), 9, 0x700).write(0x700, 8);
        rig.m.fence(0x800);
        check.equal("comparing writes nothing", 0, rig.step());
    }

    private static void negating(Check check) {
        rows(check, "0 - e", Rig.three(8, Rig.d(0)), new int[][] {
            {0, 0x101, 0, 0, 0x1FF, 25}, {0, 0x80, 0, 0, 0x80, 27}, {0, 0x100, 0, 31, 0x100, 4},
            {1, 0x8000, 0, 0, 0x8000, 27}, {2, 1, 0, 0, -1, 25}, {2, 0x80000000, 0, 0, 0x80000000, 27},
        });
        rows(check, "0 - e in chain", Rig.three(0, Rig.d(0)), new int[][] {
            {0, 0, 0, 20, 0xFF, 25}, {0, 0, 0, 4, 0, 4}, {0, 0, 0, 0, 0, 0}, {0, 0x80, 0, 16, 0x7F, 17},
            {1, 0xFFFF, 0, 16, 0, 17}, {2, 0x80000000, 0, 0, 0x80000000, 27},
        });
        rows(check, "all bits turned", Rig.three(12, Rig.d(0)), new int[][] {
            {0, 0x1FF, 0, 31, 0x100, 20}, {1, 0x7FFF, 0, 3, 0x8000, 8}, {2, -2, 0, 31, 1, 16},
        });
        rows(check, "0", Rig.three(4, Rig.d(0)), new int[][] {
            {0, 0x1FF, 0, 31, 0x100, 20}, {1, 0x17FFF, 0, 3, 0x10000, 4}, {2, -2, 0, 0, 0, 4},
        });
        rows(check, "tested", Rig.three(16, Rig.d(0)), new int[][] {
            {0, 0x180, 0, 31, 0x180, 24}, {1, 0x10000, 0, 3, 0x10000, 4}, {2, 1, 0, 31, 1, 16},
        });
        Rig other = new Rig(Rig.three(14, Rig.d(5)), Rig.three(10, Rig.d(7))).with(5, 1).with(7, 2);
        other.m.run(2);
        check.equal("D5 turned", -2, other.get(5));
        check.equal("D7 below 0", -2, other.get(7));
        int[][] tens = {{0x01, 0, 0x99, 25}, {0x00, 20, 0x99, 25}, {0x00, 4, 0x00, 4}, {0x00, 0, 0x00, 0},
            {0x99, 16, 0x00, 17}};
        for (int[] row : tens) {
            Rig rig = new Rig(Rig.three(15, Rig.at(0))).with(8, 0x700).write(0x700, row[0] << 8).flags(row[1]);
            rig.step();
            check.equal("0 - e in tens, " + row[0], row[2], rig.m.memory(0x700));
            check.equal("its flags", row[3], rig.flags());
        }
    }

    private static void products(Check check) {
        int[][] rows = { // D, DR, e, DR then, flags then (31 before)
            {0, 0xFFFFFFFF, 0xFFFF, 0xFFFE0001, 24}, {1, 0x1234FFFF, 0xFFFF, 1, 16}, {0, 3, 0, 0, 20},
            {1, 0x8000, 0x8000, 0x40000000, 16}, {1, 0x7FFF, 0x8000, 0xC0008000, 24}, {0, 0x10002, 3, 6, 16},
        };
        for (int[] row : rows) {
            Rig rig = new Rig(Rig.op(7, 2, row[0], 3, Rig.NUMBER), row[2]).with(2, row[1]).flags(31);
            check.equal("times", 0, rig.step());
            check.equal("product of " + row[1] + ", " + row[2], row[3], rig.get(2));
            check.equal("its flags", row[4], rig.flags());
        }
    }

    private static void quotients(Check check) {
        int[][] rows = { // D, DR, e, DR then, flags then (31 before)
            {0, 100, 7, 0x0002000E, 16}, {0, 0xFFFF0000, 0xFFFF, 0xFFFF0000, 30},
            {0, 0xFFFEFFFF, 0xFFFF, 0xFFFEFFFF, 24},
            {0, 3, 5, 0x00030000, 20}, {0, 0x80000000, 1, 0x80000000, 30},
            {1, -100, 7, 0xFFFEFFF2, 24}, {1, 100, -7, 0x0002FFF2, 24}, {1, -100, -7, 0xFFFE000E, 16},
            {1, 0x80000000, -1, 0x80000000, 30}, {1, 32768, 1, 32768, 30}, {1, -32768, 1, 0x8000, 24},
            {1, -32769, 1, -32769, 30}, {1, 32768, -1, 0x8000, 24}, {1, -3, 5, 0xFFFD0000, 20},
        };
        for (int[] row : rows) {
            Rig rig = new Rig(Rig.op(8, 2, row[0], 3, Rig.NUMBER), row[2]).with(2, row[1]).flags(31);
            check.equal("divided", 0, rig.step());
            check.equal("quotient of " + row[1] + ", " + row[2], row[3], rig.get(2));
            check.equal("flags of " + row[1] + ", " + row[2], row[4], rig.flags());
        }
        for (int bit = 0; bit < 2; bit++) {
            Rig rig = new Rig(Rig.op(8, 2, bit, 3, Rig.behind(0))).with(8, 0x700).with(2, 77).flags(31);
            check.equal("by 0", 5, rig.step());
            check.equal("DR stays", 77, rig.get(2));
            check.equal("flags stay", 31, rig.flags());
            check.equal("the source was found", 0x702, rig.get(8));
            check.equal("PC of the next", Rig.START + 2, rig.longAt(Rig.STACK - 4));
        }
        Rig rig = new Rig(Rig.op(8, 2, 0, 3, Rig.at(0))).with(8, 0x701);
        check.equal("an error is no 0", 3, rig.step());
    }
}
