/** Instructions 0, 1, 2 and 14, and those that move addresses, rows of registers and bytes. */
public final class MoveTest {

    public static void main(String[] args) {
        Check check = new Check("MoveTest");
        flags(check);
        toAddress(check);
        quick(check);
        addresses(check);
        bounds(check);
        storeMany(check);
        loadMany(check);
        manyWithErrors(check);
        bytes(check);
        exchange(check);
        check.end();
    }

    private static void flags(Check check) {
        int[][] rows = {{0, 0x80, 8}, {0, 0x100, 4}, {0, 0x7F, 0}, {1, 0x8000, 8}, {1, 0x10000, 4}, {2, 0x80000000, 8},
            {2, 0, 4}, {2, 1, 0}};
        for (int[] row : rows) {
            Rig rig = new Rig(Rig.move(row[0], Rig.d(1), Rig.d(2))).with(1, row[1]).flags(31);
            check.equal("move", 0, rig.step());
            check.equal("TESTED, X stays", row[2] | Rig.X, rig.flags());
        }
    }

    private static void toAddress(Check check) {
        Rig rig = new Rig(Rig.move(Rig.WORD, Rig.d(1), Rig.a(2)), Rig.move(Rig.LONG, Rig.d(1), Rig.a(3)))
                .with(1, 0x12348001).flags(21);
        rig.m.run(2);
        check.equal("EXTENDED", 0xFFFF8001, rig.get(10));
        check.equal("as a whole", 0x12348001, rig.get(11));
        check.equal("without flags", 21, rig.flags());
        rig = new Rig(Rig.move(Rig.LONG, Rig.behind(2), Rig.a(2))).with(10, 0x700).write(0x700, 7, 8);
        rig.step();
        check.equal("what was read wins", 0x70008, rig.get(10));
    }

    private static void quick(Check check) {
        Rig rig = new Rig(Rig.op(14, 5, 0, 2, 0), Rig.op(14, 6, 0, 0, 0), Rig.op(14, 7, 0, 1, 63)).with(6, -1)
                .flags(31);
        rig.step();
        check.equal("EXTENDED to a long", -128, rig.get(5));
        check.equal("below 0", Rig.X | Rig.N, rig.flags());
        rig.step();
        check.equal("0", 0, rig.get(6));
        check.equal("Z", Rig.X | Rig.Z, rig.flags());
        rig.step();
        check.equal("127", 127, rig.get(7));
        check.equal("no flags but X", Rig.X, rig.flags());
    }

    private static void addresses(Check check) {
        Rig rig = new Rig(Rig.op(14, 1, 1, 0, Rig.from(0)), 0xFFFF, Rig.three(20, Rig.at(7)),
                Rig.three(20, Rig.LONG_PLACE), 0x1234, 0x5679).with(8, 0).flags(31);
        rig.step();
        check.equal("only the place counts, odd and open too", -1, rig.get(9));
        rig.step();
        check.equal("pushed: A7 as it was", Rig.STACK, rig.longAt(Rig.STACK - 4));
        rig.step();
        check.equal("pushed: a long", 0x12345679, rig.longAt(Rig.STACK - 8));
        check.equal("A7", Rig.STACK - 8, rig.get(15));
        check.equal("flags stay", 31, rig.flags());
    }

    private static void bounds(Check check) {
        int[][] rows = { // D0, e, the answer, N then (it was not N before)
            {0, 0, 0, 0}, {5, 5, 0, 0}, {6, 5, 6, 0}, {-1, 5, 6, 8}, {0xFFFF, 0x7FFF, 6, 8}, {0x10003, 5, 0, 0},
            {0, -1, 6, 0}, {0x7FFF, 0x7FFF, 0, 0}, {-2, -5, 6, 8},
        };
        for (int[] row : rows) {
            Rig rig = new Rig(Rig.op(14, 0, 1, 1, Rig.NUMBER), row[1]).with(0, row[0]).flags(Rig.V | Rig.X);
            String what = "check of " + row[0] + " with " + row[1];
            check.equal(what, row[2], rig.step());
            check.equal(what + ", N", row[3] | Rig.V | Rig.X, rig.flags());
            if (row[2] != 0) {
                check.equal("PC of the next", Rig.START + 4, rig.longAt(Rig.STACK - 4));
            }
        }
        Rig rig = new Rig(Rig.op(14, 0, 1, 1, Rig.d(1))).with(0, 9).flags(Rig.N);
        rig.step();
        check.equal("N becomes 0", 0, rig.flags());
        rig = new Rig(Rig.op(14, 0, 1, 1, Rig.d(1))).flags(Rig.N);
        rig.step();
        check.equal("N stays", Rig.N, rig.flags());
    }

    private static Rig numbered(int... words) {
        Rig rig = new Rig(words);
        for (int k = 0; k < 15; k++) {
            rig.with(k, 0x10101 * (k + 1));
        }
        return rig;
    }

    private static void storeMany(Check check) {
        Rig rig = numbered(Rig.three(22, Rig.from(0)), 0x8103, 4).with(8, 0x6FC).flags(21);
        check.equal("store longs", 0, rig.step());
        check.equal("D0", 0x10101, rig.longAt(0x700));
        check.equal("D1", 0x20202, rig.longAt(0x704));
        check.equal("A0", 0x6FC, rig.longAt(0x708));
        check.equal("A7", Rig.STACK, rig.longAt(0x70C));
        check.equal("no more", 0, rig.longAt(0x710));
        check.equal("A0 stays", 0x6FC, rig.get(8));
        check.equal("flags stay", 21, rig.flags());
        rig = numbered(Rig.three(21, Rig.at(0)), 0x0006).with(8, 0x700);
        rig.step();
        check.equal("words, D1 and D2", 0x02020303, rig.longAt(0x700));
        check.equal("no more words", 0, rig.longAt(0x704));
        rig = numbered(Rig.three(22, Rig.before(0)), 0xC081).with(8, 0x710);
        rig.step();
        check.equal("bit 0 is A7, highest", Rig.STACK, rig.longAt(0x70C));
        check.equal("bit 7 is A0, as it was", 0x710, rig.longAt(0x708));
        check.equal("bit 14 is D1", 0x20202, rig.longAt(0x704));
        check.equal("bit 15 is D0", 0x10101, rig.longAt(0x700));
        check.equal("A0 is the last place", 0x700, rig.get(8));
        rig = numbered(Rig.three(21, Rig.before(7)), 0x8001);
        rig.step();
        check.equal("words before A7", Rig.STACK - 4, rig.get(15));
        check.equal("A7 as it was", Rig.STACK, rig.word(Rig.STACK - 2));
        check.equal("D0", 0x0101, rig.word(Rig.STACK - 4));
    }

    private static void loadMany(Check check) {
        Rig rig = numbered(Rig.three(24, Rig.behind(1)), 0x0205).with(9, 0x700).flags(21);
        rig.write(0x700, 0x8000, 0x7FFF, 0x1234);
        check.equal("load words", 0, rig.step());
        check.equal("EXTENDED to a D", 0xFFFF8000, rig.get(0));
        check.equal("not in the list", 0x20202, rig.get(1));
        check.equal("D2", 0x7FFF, rig.get(2));
        check.equal("A1 is the place behind", 0x706, rig.get(9));
        check.equal("flags stay", 21, rig.flags());
        rig = numbered(Rig.three(25, Rig.at(1)), 0x8200).with(9, 0x700).write(0x700, 1, 2, 3, 4);
        rig.step();
        check.equal("A1 is read", 0x10002, rig.get(9));
        check.equal("A7 is read", 0x30004, rig.get(15));
        rig = numbered(Rig.three(25, Rig.FROM_PC), 0x0001, 4, 0, 0xAAAA, 0x5555);
        rig.step();
        check.equal("behind the list", 0xAAAA5555, rig.get(0));
        rig = numbered(Rig.three(25, Rig.behind(1)), 0).with(9, 0x701);
        check.equal("an empty list has no access", 0, rig.step());
        check.equal("A1 stays", 0x701, rig.get(9));
        rig = numbered(Rig.three(22, Rig.before(1)), 0).with(9, 0x701);
        check.equal("nor has it in storing", 0, rig.step());
        check.equal("A1 stays, too", 0x701, rig.get(9));
    }

    private static void manyWithErrors(Check check) {
        Rig rig = numbered(Rig.three(25, Rig.at(1)), 0x0007).with(9, 2040).write(2040, 1, 2, 3, 4);
        check.equal("the third long is open", 2, rig.step());
        check.equal("D0 as before", 0x10101, rig.get(0));
        check.equal("D1 as before", 0x20202, rig.get(1));
        check.equal("the place", 2048, rig.longAt(Rig.STACK - 12));
        rig = numbered(Rig.three(22, Rig.before(1)), 0xC000).with(9, 0x404);
        rig.m.fence(0x400);
        check.equal("the second long is below the fence", 2, rig.step());
        check.equal("what was written stays", 0x20202, rig.longAt(0x400));
        check.equal("A1 as before", 0x404, rig.get(9));
        check.equal("its place", 0x3FC, rig.longAt(Rig.STACK - 12));
    }

    private static void bytes(Check check) {
        int[][] rows = {{0, 0x12341122}, {1, 0x11223344}};
        for (int[] row : rows) {
            Rig rig = new Rig(Rig.op(12, 3, 1, row[0], Rig.a(2)), 0xFFFF).with(10, 0x702).with(3, 0x12345678).flags(31);
            rig.write(0x700, 0x0011, 0x0022, 0x0033, 0x0044);
            check.equal("from memory", 0, rig.step());
            check.equal("highest first", row[1], rig.get(3));
            check.equal("flags stay", 31, rig.flags());
        }
        Rig rig = new Rig(Rig.op(12, 3, 1, 2, Rig.a(2)), 3, Rig.op(12, 3, 1, 3, Rig.a(2)), 0x10)
                .with(10, 0x6FE).with(3, 0x12345678);
        rig.write(0x700, 0xFFFF, 0xFFFF, 0xFFFF);
        rig.m.run(2);
        check.equal("the word's bytes", 0xFF56FF78, rig.longAt(0x700));
        check.equal("no more", 0xFFFF, rig.word(0x704));
        check.equal("the long's bytes", 0x12003400, rig.longAt(0x70E));
        check.equal("the rest of them", 0x56007800, rig.longAt(0x712));
        rig = new Rig(Rig.op(12, 3, 1, 1, Rig.a(2)), 0).with(10, 2046).with(3, 5);
        check.equal("the second byte is open", 2, rig.step());
        check.equal("as before", 5, rig.get(3));
    }

    private static void exchange(Check check) {
        Rig rig = new Rig(Rig.op(7, 1, 1, 1, Rig.d(2)), Rig.op(7, 1, 1, 1, Rig.a(7)), Rig.op(7, 1, 1, 2, Rig.a(3)))
                .with(1, 111).with(2, -222).with(9, 333).with(11, 444).flags(31);
        rig.step();
        check.equal("D1", -222, rig.get(1));
        check.equal("D2", 111, rig.get(2));
        rig.step();
        check.equal("A1", Rig.STACK, rig.get(9));
        check.equal("A7", 333, rig.get(15));
        rig.step();
        check.equal("D1 and A3", 444, rig.get(1));
        check.equal("A3 and D1", -222, rig.get(11));
        check.equal("flags stay", 31, rig.flags());
    }
}
