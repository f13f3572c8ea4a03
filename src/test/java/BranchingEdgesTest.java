/** The document's THE INSTRUCTIONS, on which promise 6 rests: 11 to 14, at their edges. */
public final class BranchingEdgesTest {

    private static final String ELEVEN = "Promise 6, THE INSTRUCTIONS, 11";
    private static final String TWELVE = "Promise 6, THE INSTRUCTIONS, 12";
    private static final String THIRTEEN = "Promise 6, THE INSTRUCTIONS, 13";
    private static final String FOURTEEN = "Promise 6, THE INSTRUCTIONS, 14";

    public static void main(String[] args) {
        Check check = new Check("BranchingEdgesTest");
        check.sentence(ELEVEN,
                "the way w is the lowest byte EXTENDED, or if that is 0 the next word; p is the place behind the "
                + "first word.",
                BranchingEdgesTest::ways);
        check.sentence(ELEVEN,
                "If k holds, or is 1, the PC becomes p + w; for k 1 the PC (behind the instruction) is pushed "
                + "before.",
                BranchingEdgesTest::branches);
        check.sentence(TWELVE,
                "with p = Ar + the next word EXTENDED, 2 or 4 bytes at p, p + 2, .. (accesses of bytes; the "
                + "highest one first)",
                BranchingEdgesTest::everyOtherByte);
        check.sentence(TWELVE, "z 0 and 1 to DR's word, or DR; 2 and 3 from it.", BranchingEdgesTest::toAndFrom);
        check.sentence(TWELVE,
                "a D's as a long, bit number modulo 32, else a byte's, modulo 8; Z becomes whether it was 0.",
                BranchingEdgesTest::bitNumbers);
        check.sentence(TWELVE,
                "z 0 none, 1 turned, 2 becomes 0, 3 becomes 1, of OPEN DATA e (z 0: DATA e, but for R 4 not M 7 "
                + "with r 4)",
                BranchingEdgesTest::bitKinds);
        check.sentence(TWELVE,
                "OPEN DATA e (z < 3) and the number that the next word (byte: its lower half) or long is (taken "
                + "away from e, e COMPARED with it), to e, the first three TESTED.",
                BranchingEdgesTest::numbers);
        check.sentence(TWELVE,
                "But R 0, 1, 5 with M 7, r 4: z 0: the FLAGS with the lowest bits of the next word, z 1, "
                + "PRIVILEGED: the STATUS with that word.",
                BranchingEdgesTest::statusWithNumbers);
        check.sentence(THIRTEEN,
                "Dr n times, n being R, or 8 for 0, if bit 5 is 0, and otherwise DR modulo 64, of kind bits 3, 4",
                BranchingEdgesTest::howOften);
        check.sentence(THIRTEEN, "z 3: OPEN MEMORY e, a word, once, of kind R (0 .. 3).", BranchingEdgesTest::inMemory);
        check.sentence(THIRTEEN,
                "Each time by one bit; the one that goes out becomes C, and X but for kind 3; there comes in: "
                + "for kind 0 and 1 0 (kind 0 to the right: the highest bit again), kind 2 X as it was, kind 3 the "
                + "one that goes out.",
                BranchingEdgesTest::shifts);
        check.sentence(THIRTEEN,
                "N and Z of the result; V whether the highest bit changed at any time, for kind 0 to the left, "
                + "else 0.",
                BranchingEdgesTest::changedAtAnyTime);
        check.sentence(THIRTEEN, "With n 0 C becomes 0, for kind 2 X.", BranchingEdgesTest::notAtAll);
        check.sentence(FOURTEEN, "D 0: DR becomes the lowest byte EXTENDED, TESTED as a long.",
                BranchingEdgesTest::quick);
        check.sentence(FOURTEEN, "z 0: AR becomes the ADDRESS of CONTROL e.", BranchingEdgesTest::addresses);
        check.sentence(FOURTEEN,
                "with DR's word x and DATA e, a word, both with signs: if x is below 0, N becomes 1, if it is "
                + "above e, N becomes 0: exception 6 in both cases; otherwise nothing.",
                BranchingEdgesTest::bounds);
        check.end();
    }

    private static void ways(Check check) {
        int p = Rig.START + 2;
        int[][] rows = { // lowest byte, next word, PC then
            {1, 0, p + 1}, {0x7F, 0, p + 0x7F}, {0x80, 0, p - 0x80}, {0xFF, 0, p - 1}, {0xFE, 0, Rig.START},
            {0, 0, p}, {0, 2, p + 2}, {0, 0x7FFF, p + 0x7FFF}, {0, 0x8000, p - 0x8000}, {0, 0xFFFF, p - 1},
            {0, 0x80, p + 0x80},
        };
        for (int[] row : rows) {
            Rig rig = new Rig(Rig.branch(0, row[0]), row[1]);
            check.equal("branch", 0, rig.step());
            check.equal("byte " + row[0] + ", word " + row[1], row[2], rig.pc());
        }
        Rig end = new Rig().write(2046, Rig.branch(0, 0)).with(Rig.PC, 2046);
        check.equal("no next word is there", 2, end.step());
        Rig one = new Rig().write(2046, Rig.branch(0, 2)).with(Rig.PC, 2046);
        check.equal("no next word is read", 0, one.step());
        Rig not = new Rig().write(2046, Rig.branch(7, 0)).with(Rig.PC, 2046);
        check.equal("it is read though k does not hold", 2, not.step());
    }

    private static void branches(Check check) {
        for (int k = 0; k < 16; k++) {
            for (int flags = 0; flags < 32; flags++) {
                Rig condition = new Rig(Rig.op(9, k / 2, k % 2, 3, Rig.d(0))).flags(flags);
                condition.step();
                boolean goes = k == 1 || condition.get(0) == 255;
                Rig rig = new Rig(Rig.branch(k, 0x10)).flags(flags);
                rig.step();
                check.equal("k " + k + " with " + flags, goes ? Rig.START + 0x12 : Rig.START + 2, rig.pc());
                check.equal("A7", k == 1 ? Rig.STACK - 4 : Rig.STACK, rig.get(15));
                check.equal("flags stay", flags, rig.flags());
            }
        }
        Rig not = new Rig(Rig.branch(7, 0), 0x200);
        not.step();
        check.equal("behind both words, if k does not hold", Rig.START + 4, not.pc());
        Rig word = new Rig(Rig.branch(1, 0), 0x80);
        word.step();
        check.equal("pushed: behind both words", Rig.START + 4, word.longAt(Rig.STACK - 4));
        check.equal("PC", Rig.START + 0x82, word.pc());
        Rig one = new Rig(Rig.branch(1, 0x20));
        one.step();
        check.equal("pushed: behind the one word", Rig.START + 2, one.longAt(Rig.STACK - 4));
        check.equal("PC of it", Rig.START + 0x22, one.pc());
    }

    private static void everyOtherByte(Check check) {
        int[][] rows = {{0, 0x700}, {1, 0x701}, {0x7FFF, 0x700}, {0x8000, 0x700}, {0xFFFF, 0x701}};
        for (int[] row : rows) {
            int base = row[1] - (short) row[0];
            Rig rig = new Rig(Rig.op(12, 3, 1, 1, Rig.a(2)), row[0]).with(10, base).with(3, -1).flags(31);
            for (int i = 0; i < 4; i++) {
                int place = row[1] + 2 * i;
                rig.m.put(place & ~1, (place & 1) == 0 ? 0x1100 * (i + 1) : 0x11 * (i + 1));
            }
            check.equal("answer", 0, rig.step());
            check.equal("from " + row[0] + " on, the highest first", 0x11223344, rig.get(3));
            check.equal("A2 stays", base, rig.get(10));
            check.equal("flags stay", 31, rig.flags());
        }
        check.equal("the last four bytes", 0, new Rig(Rig.op(12, 3, 1, 1, Rig.a(2)), 0).with(10, 2041).step());
        check.equal("the last even ones", 0, new Rig(Rig.op(12, 3, 1, 1, Rig.a(2)), 0).with(10, 2040).step());
        Rig open = new Rig(Rig.op(12, 3, 1, 1, Rig.a(2)), 0).with(10, 2042).with(3, 5);
        check.equal("the fourth is open", 2, open.step());
        check.equal("its place", 2048, open.longAt(Rig.STACK - 12));
        check.equal("DR is as before", 5, open.get(3));
        Rig port = new Rig(Rig.op(12, 3, 1, 0, Rig.a(2)), 0).with(10, 4096);
        port.m.type(0x77);
        port.step();
        check.equal("accesses of bytes: 4096 and 4098, not 4097", 0x7700, port.get(3));
        Rig written = new Rig(Rig.op(12, 3, 1, 3, Rig.a(2)), 0).with(10, 2044).with(3, 0x11223344);
        check.equal("the third of four is open", 2, written.step());
        check.equal("two stay written", 0x11002200, written.longAt(2044));
    }

    private static void toAndFrom(Check check) {
        int[] due = {0x12341122, 0x11223344};
        for (int z = 0; z < 2; z++) {
            Rig rig = new Rig(Rig.op(12, 3, 1, z, Rig.a(2)), 0).with(10, 0x701).with(3, 0x12345678);
            rig.write(0x700, 0xFF11, 0xFF22, 0xFF33, 0xFF44);
            rig.step();
            check.equal("z " + z, due[z], rig.get(3));
        }
        int[][] written = {{0xFF56FF78, 0xFFFFFFFF}, {0xFF12FF34, 0xFF56FF78}};
        for (int z = 2; z < 4; z++) {
            Rig rig = new Rig(Rig.op(12, 3, 1, z, Rig.a(2)), 0).with(10, 0x701).with(3, 0x12345678);
            rig.write(0x700, 0xFFFF, 0xFFFF, 0xFFFF, 0xFFFF);
            rig.step();
            check.equal("z " + z, written[z - 2][0], rig.longAt(0x700));
            check.equal("z " + z + ", behind it", written[z - 2][1], rig.longAt(0x704));
            check.equal("DR stays", 0x12345678, rig.get(3));
        }
    }

    private static void bitNumbers(Check check) {
        int[] numbers = {0, 1, 7, 8, 15, 31, 32, 33, 63, 64, 255, 256, -1, -31, Integer.MIN_VALUE, Integer.MAX_VALUE};
        for (int number : numbers) {
            Rig byRegister = new Rig(Rig.op(12, 1, 1, 3, Rig.d(0)), Rig.op(12, 1, 1, 3, Rig.at(0))).with(1, number)
                    .with(8, 0x701);
            byRegister.m.run(2);
            check.equal("a D's bit by DR, " + number, 1 << (number & 31), byRegister.get(0));
            check.equal("a byte's bit by DR, " + number, 1 << (number & 7), byRegister.word(0x700));
            Rig byNumber = new Rig(Rig.op(12, 4, 0, 3, Rig.d(0)), number & 0xFFFF, Rig.op(12, 4, 0, 3, Rig.at(0)),
                    number & 0xFFFF)
                    .with(8, 0x701);
            byNumber.m.run(2);
            check.equal("a D's bit by a number, " + number, 1 << (number & 31), byNumber.get(0));
            check.equal("a byte's bit by a number, " + number, 1 << (number & 7), byNumber.word(0x700));
        }
        for (int bit = 0; bit < 32; bit++) {
            for (int value : new int[] {0, -1, 1 << bit, ~(1 << bit)}) {
                Rig rig = new Rig(Rig.op(12, 1, 1, 0, Rig.d(0))).with(0, value).with(1, bit).flags(27);
                rig.step();
                check.equal("Z of bit " + bit + " of " + value, (value >>> bit & 1) == 0 ? 31 : 27, rig.flags());
                check.equal("it stays", value, rig.get(0));
            }
        }
        Rig itself = new Rig(Rig.op(12, 0, 1, 1, Rig.d(0))).with(0, 33);
        itself.step();
        check.equal("a bit of the number itself", 33 ^ 2, itself.get(0));
    }

    private static void bitKinds(Check check) {
        int[] ofZero = {0, 16, 0, 16};
        int[] ofAll = {-1, -17, -17, -1};
        for (int z = 0; z < 4; z++) {
            Rig rig = new Rig(Rig.op(12, 1, 1, z, Rig.d(0)), Rig.op(12, 4, 0, z, Rig.d(2)), 4).with(1, 4).with(2, -1)
                    .flags(27);
            rig.step();
            check.equal("z " + z + " of a 0", ofZero[z], rig.get(0));
            check.equal("it was 0", 31, rig.flags());
            rig.step();
            check.equal("z " + z + " of a 1", ofAll[z], rig.get(2));
            check.equal("it was 1", 27, rig.flags());
        }
        for (int r = 0; r < 8; r++) {
            for (int z = 0; z < 4; z++) {
                boolean asks = z == 0;
                check.equal("of a number by D" + r, asks ? 0 : 4, new Rig(Rig.op(12, r, 1, z, Rig.NUMBER), 0).step());
                check.equal("from the PC by D" + r, asks ? 0 : 4, new Rig(Rig.op(12, r, 1, z, Rig.FROM_PC), 0).step());
            }
        }
        for (int z = 0; z < 4; z++) {
            check.equal("of a number by a number", 4, new Rig(Rig.op(12, 4, 0, z, Rig.NUMBER), 0, 0).step());
            check.equal("from the PC by a number", z == 0 ? 0 : 4, new Rig(Rig.op(12, 4, 0, z, Rig.FROM_PC), 0, 0)
                    .step());
            check.equal("of an A", 4, new Rig(Rig.op(12, 4, 0, z, Rig.a(0)), 0).step());
        }
        Rig fenced = new Rig(Rig.op(12, 1, 1, 0, Rig.SHORT_PLACE), 0x10, Rig.op(12, 1, 1, 2, Rig.SHORT_PLACE), 0x10);
        fenced.m.fence(0x100);
        check.equal("z 0 writes nothing", 0, fenced.step());
        check.equal("the others do", 2, fenced.step());
        Rig number = new Rig(Rig.op(12, 1, 1, 0, Rig.NUMBER), 0xFF04).with(1, 10);
        number.step();
        check.equal("of a number its lower half", 0, number.flags());
    }

    private static void numbers(Check check) {
        int[][] rows = { // R, size, D0, the number, D0 then, flags then (31 before)
            {0, 0, 0x1100, 0xFF80, 0x1180, 24}, {0, 0, 0x1100, 0xFF00, 0x1100, 20},
            {0, 1, 0x110000, 0x8000, 0x118000, 24},
            {0, 2, 0, 0x80000000, 0x80000000, 24}, {1, 0, 0x11FF, 0xFF0F, 0x110F, 16},
            {1, 1, 0x11FFFF, 0, 0x110000, 20},
            {1, 2, -1, 0x80000000, 0x80000000, 24}, {5, 0, 0x11FF, 0xFF, 0x1100, 20},
            {5, 1, 0xAAAA, 0x5555, 0xFFFF, 24},
            {5, 2, -1, 0x80000000, 0x7FFFFFFF, 16}, {2, 0, 0x1105, 0xFF06, 0x11FF, 25}, {2, 0, 0x80, 1, 0x7F, 2},
            {2, 1, 0x8000, 1, 0x7FFF, 2}, {2, 2, 0, 1, -1, 25}, {2, 2, 5, 5, 0, 4}, {3, 0, 0x7F, 1, 0x80, 10},
            {3, 1, 0xFFFF, 1, 0, 21}, {3, 2, 0x7FFFFFFF, 1, 0x80000000, 10}, {6, 0, 0x1105, 0xFF05, 0x1105, 20},
            {6, 1, 4, 5, 4, 25}, {6, 2, 0x80000000, 1, 0x80000000, 18},
        };
        for (int[] row : rows) {
            boolean isLong = row[1] == 2;
            Rig rig = new Rig(Rig.op(12, row[0], 0, row[1], Rig.d(0)), isLong ? row[3] >>> 16 : row[3], row[3] & 0xFFFF)
                    .with(0, row[2]).flags(31);
            String what = "R " + row[0] + ", size " + row[1] + ", " + row[2] + ", " + row[3];
            check.equal(what, 0, rig.step());
            check.equal(what + ": result", row[4], rig.get(0));
            check.equal(what + ": flags", row[5], rig.flags());
            check.equal(what + ": PC", Rig.START + (isLong ? 6 : 4), rig.pc());
        }
        Rig fenced = new Rig(Rig.op(12, 6, 0, Rig.WORD, Rig.SHORT_PLACE), 9, 0x10);
        fenced.m.fence(2048);
        check.equal("comparing writes nothing", 0, fenced.step());
        for (int r : new int[] {0, 1, 2, 3, 5, 6}) {
            check.equal("z 3 is none, R " + r, 4, new Rig(Rig.op(12, r, 0, 3, Rig.d(0))).step());
        }
        for (int z = 0; z < 4; z++) {
            check.equal("R 7 is none", 4, new Rig(Rig.op(12, 7, 0, z, Rig.d(0))).step());
        }
        for (int r : new int[] {2, 3, 6}) {
            check.equal("M 7, r 4 is none, R " + r, 4, new Rig(Rig.op(12, r, 0, 0, Rig.NUMBER), 0).step());
        }
    }

    private static void statusWithNumbers(Check check) {
        int[][] rows = { // R, size, the word, STATUS then (0x2715 before)
            {0, 0, 0x0000, 0x2715}, {0, 0, 0xFFFF, 0x271F}, {0, 0, 0xFFE0, 0x2715}, {1, 0, 0x0000, 0x2700},
            {1, 0, 0xFFFF, 0x2715},
            {5, 0, 0xFFFF, 0x270A}, {5, 0, 0xFFE0, 0x2715}, {0, 1, 0xFFFF, 0xA71F}, {0, 1, 0, 0x2715},
            {1, 1, 0xFFFF, 0x2715},
            {1, 1, 0x2000, 0x2000}, {1, 1, 0, 0}, {5, 1, 0xFFFF, 0x800A}, {5, 1, 0, 0x2715},
        };
        for (int[] row : rows) {
            Rig rig = new Rig(Rig.op(12, row[0], 0, row[1], Rig.NUMBER), row[2]).flags(21).with(Rig.OTHER, 99);
            String what = "R " + row[0] + ", size " + row[1] + ", " + row[2];
            check.equal(what, 0, rig.step());
            check.equal(what + ": STATUS", row[3], rig.get(Rig.STATUS));
            check.equal(what + ": A7", (row[3] & 0x2000) != 0 ? Rig.STACK : 99, rig.get(15));
            check.equal(what + ": PC", Rig.START + 4, rig.pc());
        }
        for (int r : new int[] {0, 1, 5}) {
            check.equal("the FLAGS by the user", 0, new Rig(Rig.op(12, r, 0, 0, Rig.NUMBER), 0).user().step());
            check.equal("the STATUS by the user", 8, new Rig(Rig.op(12, r, 0, 1, Rig.NUMBER), 0).user().step());
            check.equal("as a long it is none", 4, new Rig(Rig.op(12, r, 0, 2, Rig.NUMBER), 0, 0).step());
            check.equal("nor with z 3", 4, new Rig(Rig.op(12, r, 0, 3, Rig.NUMBER), 0, 0).step());
        }
    }

    /** Due is: result and flags, told bit by bit. */
    private static int[] shifted(int value, int size, int kind, boolean left, int n, int xBefore) {
        int bits = 8 << size;
        boolean[] row = new boolean[bits];
        for (int i = 0; i < bits; i++) {
            row[i] = (value >>> i & 1) != 0;
        }
        boolean x = xBefore != 0;
        boolean c = kind == 2 && x;
        boolean changed = false;
        for (int time = 0; time < n; time++) {
            boolean highest = row[bits - 1];
            c = left ? highest : row[0];
            boolean in = kind == 3 ? c : kind == 2 ? x : kind == 0 && !left && highest;
            for (int i = 0; i < bits - 1; i++) {
                if (left) {
                    row[bits - 1 - i] = row[bits - 2 - i];
                } else {
                    row[i] = row[i + 1];
                }
            }
            row[left ? 0 : bits - 1] = in;
            x = kind == 3 ? x : c;
            changed |= row[bits - 1] != highest;
        }
        int result = 0;
        for (int i = 0; i < bits; i++) {
            result |= row[i] ? 1 << i : 0;
        }
        int flags = (x ? Rig.X : 0) | (row[bits - 1] ? Rig.N : 0) | (result == 0 ? Rig.Z : 0)
                | (changed && kind == 0 && left ? Rig.V : 0) | (c ? Rig.C : 0);
        return new int[] {result, flags};
    }

    private static void shift(Check check, int kind, int left, int size, int n, int value, int before) {
        Rig rig = new Rig(Rig.op(13, 1, left, size, 32 | kind << 3)).with(0, value).with(1, n).flags(before);
        rig.step();
        int[] due = shifted(value, size, kind, left == 1, n & 63, before & Rig.X);
        int mask = size == 2 ? -1 : (1 << (8 << size)) - 1;
        String what = "kind " + kind + ", D " + left + ", size " + size + ", n " + n
                + " of " + Integer.toHexString(value) + " with " + before;
        check.equal(what + ": result", value & ~mask | due[0], rig.get(0));
        check.equal(what + ": flags", due[1], rig.flags());
    }

    private static void howOften(Check check) {
        for (int r = 0; r < 8; r++) {
            int n = r == 0 ? 8 : r;
            Rig rig = new Rig(Rig.op(13, r, 1, Rig.LONG, 1 << 3 | 7), Rig.op(13, r, 0, Rig.LONG, 1 << 3 | 6))
                    .with(7, 1).with(6, 1 << 16);
            rig.m.run(2);
            check.equal("to the left by R " + r, 1 << n, rig.get(7));
            check.equal("to the right by R " + r, 1 << 16 - n, rig.get(6));
        }
        for (int n : new int[] {0, 1, 31, 32, 33, 62, 63, 64, 65, 127, 128, -1, -63, -64, Integer.MIN_VALUE,
                Integer.MAX_VALUE}) {
            for (int kind = 0; kind < 4; kind++) {
                for (int left = 0; left < 2; left++) {
                    shift(check, kind, left, Rig.LONG, n, 0x80000001, Rig.X);
                    shift(check, kind, left, Rig.BYTE, n, 0x12345681, 0);
                }
            }
        }
        Rig itself = new Rig(Rig.op(13, 7, 0, Rig.WORD, 32 | 3 << 3 | 7)).with(7, 0x1008);
        itself.step();
        check.equal("D7 by itself, 8", 0x0810, itself.get(7));
    }

    private static void inMemory(Check check) {
        for (int kind = 0; kind < 4; kind++) {
            for (int left = 0; left < 2; left++) {
                for (int value : new int[] {0, 1, 0x4000, 0x7FFF, 0x8000, 0x8001, 0xC000, 0xFFFF}) {
                    for (int before : new int[] {0, 31}) {
                        Rig rig = new Rig(Rig.op(13, kind, left, 3, Rig.behind(0))).with(8, 0x700)
                                .write(0x700, value, 0xAAAA).flags(before);
                        check.equal("answer", 0, rig.step());
                        int[] due = shifted(value, Rig.WORD, kind, left == 1, 1, before & Rig.X);
                        check.equal("kind " + kind + ", D " + left + " of " + value, due[0], rig.word(0x700));
                        check.equal("flags", due[1], rig.flags());
                        check.equal("found once", 0x702, rig.get(8));
                        check.equal("not behind it", 0xAAAA, rig.word(0x702));
                    }
                }
                check.equal("kind " + (kind + 4) + " is none", 4, new Rig(Rig.op(13, kind + 4, left, 3, Rig.at(0)))
                        .step());
            }
        }
        check.equal("of a D it is none", 4, new Rig(Rig.op(13, 0, 0, 3, Rig.d(0))).step());
        check.equal("an odd word", 3, new Rig(Rig.op(13, 0, 0, 3, Rig.at(0))).with(8, 0x701).step());
    }

    private static void shifts(Check check) {
        for (int size = 0; size < 3; size++) {
            int top = 1 << (8 << size) - 1;
            for (int kind = 0; kind < 4; kind++) {
                for (int left = 0; left < 2; left++) {
                    for (int n : new int[] {1, 2, 7, 8, 9, 15, 16, 17, 31, 32, 33, 63}) {
                        for (int value : new int[] {0, 1, top, top >>> 1, top - 1, -1, 0x5A5A5A5A}) {
                            shift(check, kind, left, size, n, value, 0);
                            shift(check, kind, left, size, n, value, 31);
                        }
                    }
                }
            }
        }
    }

    private static void changedAtAnyTime(Check check) {
        int[][] rows = { // D0, n, V due, to the left as a byte
            {0x40, 1, 1}, {0x40, 2, 1}, {0xC0, 1, 0}, {0xC0, 2, 1}, {0x3F, 1, 0}, {0x3F, 2, 1}, {0xFF, 7, 0},
            {0xFF, 8, 1},
            {0x80, 1, 1}, {0x00, 63, 0}, {0xA0, 3, 1}, {0x01, 6, 0}, {0x01, 7, 1}, {0x01, 8, 1},
        };
        for (int[] row : rows) {
            for (int kind = 0; kind < 4; kind++) {
                for (int left = 0; left < 2; left++) {
                    Rig rig = new Rig(Rig.op(13, 1, left, Rig.BYTE, 32 | kind << 3)).with(0, row[0]).with(1, row[1])
                            .flags(Rig.V);
                    rig.step();
                    int due = kind == 0 && left == 1 ? row[2] * Rig.V : 0;
                    check.equal("kind " + kind + ", D " + left + ", " + row[0] + " by " + row[1], due,
                            rig.flags() & Rig.V);
                }
            }
        }
    }

    private static void notAtAll(Check check) {
        for (int n : new int[] {0, 64, 128, -64}) {
            for (int kind = 0; kind < 4; kind++) {
                for (int left = 0; left < 2; left++) {
                    for (int x : new int[] {0, Rig.X}) {
                        for (int[] row : new int[][] {{0x1100, Rig.Z}, {0x1101, 0}, {0x1180, Rig.N}}) {
                            Rig rig = new Rig(Rig.op(13, 1, left, Rig.BYTE, 32 | kind << 3)).with(0, row[0])
                                    .with(1, n).flags(x | 15);
                            rig.step();
                            int c = kind == 2 && x != 0 ? Rig.C : 0;
                            check.equal("kind " + kind + ", n " + n + ", X " + x, row[1] | x | c, rig.flags());
                            check.equal("it stays", row[0], rig.get(0));
                        }
                    }
                }
            }
        }
    }

    private static void quick(Check check) {
        int[][] rows = {{0, 0, Rig.Z}, {1, 1, 0}, {0x7F, 127, 0}, {0x80, -128, Rig.N}, {0xFF, -1, Rig.N}};
        for (int[] row : rows) {
            for (int r = 0; r < 8; r += 7) {
                Rig rig = new Rig(Rig.op(14, r, 0, 0, 0) | row[0]).with(r, 0x55555555).flags(31);
                rig.step();
                check.equal("byte " + row[0], row[1], rig.get(r));
                check.equal("TESTED as a long, X stays", row[2] | Rig.X, rig.flags());
            }
        }
    }

    private static void addresses(Check check) {
        Rig rig = new Rig(Rig.op(14, 7, 1, 0, Rig.from(7)), 0xFFFF).flags(31);
        rig.step();
        check.equal("an odd A7", Rig.STACK - 1, rig.get(15));
        check.equal("flags stay", 31, rig.flags());
        check.equal("no access: an open place", 0, new Rig(Rig.op(14, 0, 1, 0, Rig.LONG_PLACE), 0xFFFF, 0xFFFF).step());
        for (int z = 2; z < 4; z++) {
            check.equal("z " + z + " is none", 4, new Rig(Rig.op(14, 0, 1, z, Rig.at(0))).step());
        }
    }

    private static void bounds(Check check) {
        int[][] rows = { // D0, e, the answer, N then (or -1: it stays)
            {0, 0, 0, -1}, {1, 0, 6, 0}, {-1, 0, 6, 8}, {5, 5, 0, -1}, {6, 5, 6, 0}, {4, 5, 0, -1},
            {0x7FFF, 0x7FFF, 0, -1},
            {0x7FFF, 0x7FFE, 6, 0}, {0x8000, 0x7FFF, 6, 8}, {0xFFFF, 0x7FFF, 6, 8}, {0x10003, 5, 0, -1},
            {0xFFFF0003, 5, 0, -1},
            {0, 0xFFFF, 6, 0}, {0, 0x8000, 6, 0}, {-2, -5, 6, 8}, {-5, -2, 6, 8}, {-5, -5, 6, 8},
        };
        for (int[] row : rows) {
            for (int before : new int[] {0, 31}) {
                Rig rig = new Rig(Rig.op(14, 0, 1, 1, Rig.NUMBER), row[1]).with(0, row[0]).flags(before);
                String what = row[0] + " with " + row[1] + ", flags " + before;
                check.equal(what, row[2], rig.step());
                check.equal(what + ": N alone", row[3] < 0 ? before : before & ~Rig.N | row[3], rig.flags());
                check.equal(what + ": DR stays", row[0], rig.get(0));
                if (row[2] != 0) {
                    check.equal("PC of the next", Rig.START + 4, rig.longAt(Rig.STACK - 4));
                }
            }
        }
    }
}
