/** The document's Terms, on which promise 6 rests: OPERANDS and their kinds, at their edges. */
public final class OperandEdgesTest {

    private static final String OPERANDS = "Promise 6, Terms, OPERANDS";
    private static final int ADDRESS_TO_A2 = Rig.op(14, 2, 1, 0, 0);

    public static void main(String[] args) {
        Check check = new Check("OperandEdgesTest");
        check.sentence(OPERANDS, "M 0: Dr. 1: Ar. 2: what is at Ar.", OperandEdgesTest::registers);
        check.sentence(OPERANDS, "3: at Ar, which then grows by the size (1, 2, 4; a byte's is 2 for A7).",
                OperandEdgesTest::behind);
        check.sentence(OPERANDS, "4: at Ar, after that became less by as much.", OperandEdgesTest::before);
        check.sentence(OPERANDS, "5: at Ar + the next word EXTENDED.", OperandEdgesTest::fromAddress);
        check.sentence(OPERANDS, "its lowest byte EXTENDED + the register i >>> 12 (0 .. 7 D0 .. D7, 8 .. 15 A0 .. A7)",
                OperandEdgesTest::indexRegisters);
        check.sentence(OPERANDS, "as a whole if bit 11 is 1, else its lowest word EXTENDED.",
                OperandEdgesTest::indexSizes);
        check.sentence(OPERANDS, "7: r 0 at the next word EXTENDED", OperandEdgesTest::shortPlace);
        check.sentence(OPERANDS, "r 1 at the next long (two words)", OperandEdgesTest::longPlace);
        check.sentence(OPERANDS,
                "r 2 at the PC + the next word EXTENDED, and r 3 at the PC + an INDEX, the PC being the place of "
                + "that word",
                OperandEdgesTest::fromPc);
        check.sentence(OPERANDS, "r 4 the number that the next word (for a byte its lower half), or the next long, is.",
                OperandEdgesTest::number);
        check.sentence(OPERANDS, "Others are none.", OperandEdgesTest::none);
        check.sentence(OPERANDS, "ANY is an operand that is there, but not M 1 as a byte", OperandEdgesTest::any);
        check.sentence(OPERANDS, "DATA: not M 1", OperandEdgesTest::data);
        check.sentence(OPERANDS, "MEMORY: not M 0, 1", OperandEdgesTest::memory);
        check.sentence(OPERANDS, "CONTROL: M 2, 5, 6, and 7 with r 0 .. 3 (only its place counts: the ADDRESS).",
                OperandEdgesTest::control);
        check.sentence(OPERANDS, "OPEN in front of these: not M 7 with r above 1.", OperandEdgesTest::open);
        check.sentence(OPERANDS, "Numbers that stand in words of their own come before the words of operands.",
                OperandEdgesTest::numbersFirst);
        check.sentence(OPERANDS,
                "A source is found (its words read, Ar changed) and read first, then what is changed (or what it "
                + "is COMPARED with) is found, read where it matters, and written.",
                OperandEdgesTest::order);
        check.end();
    }

    private static void registers(Check check) {
        for (int r = 0; r < 8; r++) {
            Rig rig = new Rig(Rig.move(Rig.LONG, Rig.d(r), Rig.SHORT_PLACE), 0x700,
                    Rig.move(Rig.LONG, Rig.a(r), Rig.SHORT_PLACE), 0x704,
                    Rig.move(Rig.WORD, Rig.at(r), Rig.SHORT_PLACE), 0x708);
            for (int k = 0; k < 16; k++) {
                rig.with(k, 0x400 + 2 * k).write(0x400 + 2 * k, 0xF000 + k);
            }
            rig.m.run(3);
            check.equal("D" + r, 0x400 + 2 * r, rig.longAt(0x700));
            check.equal("A" + r, 0x410 + 2 * r, rig.longAt(0x704));
            check.equal("at A" + r, 0xF008 + r, rig.word(0x708));
            check.equal("A" + r + " stays", 0x410 + 2 * r, rig.get(8 + r));
        }
    }

    private static int size(int size, int r) {
        return size == Rig.BYTE && r == 7 ? 2 : 1 << size;
    }

    private static void behind(Check check) {
        int[] there = {0xA1, 0xA1A2, 0xA1A2A3A4};
        for (int size = 0; size < 3; size++) {
            for (int r = 0; r < 8; r++) {
                Rig rig = new Rig(Rig.move(size, Rig.behind(r), Rig.d(7))).with(8 + r, 0x700)
                        .write(0x700, 0xA1A2, 0xA3A4);
                check.equal("answer", 0, rig.step());
                check.equal("read where it was, size " + size + " A" + r, there[size], rig.get(7));
                check.equal("grown, size " + size + " A" + r, 0x700 + size(size, r), rig.get(8 + r));
            }
        }
        Rig end = new Rig(Rig.move(Rig.BYTE, Rig.behind(0), Rig.d(0)), Rig.move(Rig.BYTE, Rig.behind(0), Rig.d(0)))
                .with(8, 2047);
        check.equal("the last byte", 0, end.step());
        check.equal("grown out of memory", 2048, end.get(8));
        check.equal("where nothing is", 2, end.step());
        check.equal("not grown again", 2048, end.get(8));
        Rig upper = new Rig(Rig.move(Rig.BYTE, Rig.behind(0), Rig.d(0))).with(8, 0xFF0007FF);
        upper.step();
        check.equal("with its upper bits", 0xFF000800, upper.get(8));
    }

    private static void before(Check check) {
        int[] there = {0x44, 0x3344, 0x11223344};
        for (int size = 0; size < 3; size++) {
            for (int r = 0; r < 8; r++) {
                Rig rig = new Rig(Rig.move(size, Rig.NUMBER, Rig.before(r)), size == 2 ? 0x1122 : 0x3344, 0x3344)
                        .with(8 + r, 0x704);
                int place = 0x704 - size(size, r);
                check.equal("answer", 0, rig.step());
                check.equal("less, size " + size + " A" + r, place, rig.get(8 + r));
                int got = size == 0 ? rig.m.memory(place) : size == 1 ? rig.word(place) : rig.longAt(place);
                check.equal("written there, size " + size + " A" + r, there[size], got);
            }
        }
        Rig end = new Rig(Rig.move(Rig.BYTE, Rig.before(0), Rig.d(0)), Rig.move(Rig.BYTE, Rig.before(0), Rig.d(0)))
                .with(8, 1);
        check.equal("the first byte", 0, end.step());
        check.equal("less down to 0", 0, end.get(8));
        check.equal("below it is nothing", 2, end.step());
        check.equal("not less again", 0, end.get(8));
        Rig behindMemory = new Rig(Rig.move(Rig.LONG, Rig.before(0), Rig.d(0))).with(8, 2048);
        check.equal("from behind memory", 0, behindMemory.step());
    }

    private static void fromAddress(Check check) {
        int[][] rows = {{0, 0}, {1, 1}, {0x7FFF, 0x7FFF}, {0x8000, -0x8000}, {0xFFFF, -1}};
        for (int[] row : rows) {
            for (int base : new int[] {0, 0x1000, 0x7FFFFFFF, 0x80000000, -1}) {
                Rig rig = new Rig(ADDRESS_TO_A2 | Rig.from(5), row[0]).with(13, base);
                rig.step();
                check.equal("from " + base + " by " + row[0], base + row[1], rig.get(10));
                check.equal("A5 stays", base, rig.get(13));
            }
        }
    }

    private static void indexRegisters(Check check) {
        for (int k = 0; k < 16; k++) {
            Rig rig = new Rig(ADDRESS_TO_A2 | Rig.indexed(3), k << 12 | 0x0800);
            for (int what = 0; what < 16; what++) {
                rig.with(what, 0x10000 * what + 0x100);
            }
            rig.step();
            check.equal("register " + k, 11 * 0x10000 + 0x100 + k * 0x10000 + 0x100, rig.get(10));
        }
        int[][] bytes = {{0, 0}, {0x7F, 0x7F}, {0x80, -0x80}, {0xFF, -1}};
        for (int[] row : bytes) {
            for (int other : new int[] {0, 0x0700}) {
                Rig rig = new Rig(ADDRESS_TO_A2 | Rig.indexed(0), 0x1000 | other | row[0]).with(8, 0x500).with(1, 0x20);
                rig.step();
                check.equal("byte " + row[0] + ", bits 8 to 10 do not count", 0x520 + row[1], rig.get(10));
            }
        }
    }

    private static void indexSizes(Check check) {
        int[][] rows = { // the register, its word EXTENDED
            {0x12347FFF, 0x7FFF}, {0x12348000, -0x8000}, {0x0001FFFF, -1}, {0xFFFF0000, 0}, {-1, -1},
        };
        for (int[] row : rows) {
            for (int k : new int[] {1, 9}) {
                Rig word = new Rig(ADDRESS_TO_A2 | Rig.indexed(0), k << 12).with(8, 0x500).with(k, row[0]);
                word.step();
                check.equal("its word", 0x500 + row[1], word.get(10));
                Rig whole = new Rig(ADDRESS_TO_A2 | Rig.indexed(0), k << 12 | 0x800).with(8, 0x500).with(k, row[0]);
                whole.step();
                check.equal("as a whole", 0x500 + row[0], whole.get(10));
                for (int low = 1; low < 128; low += low) {
                    Rig bit = new Rig(ADDRESS_TO_A2 | Rig.indexed(0), k << 12 | low).with(8, 0x500).with(k, row[0]);
                    bit.step();
                    check.equal("its word, no other bit tells", 0x500 + row[1] + low, bit.get(10));
                }
            }
        }
    }

    private static void shortPlace(Check check) {
        int[][] rows = {{0, 0}, {0x7FFF, 0x7FFF}, {0x8000, 0xFFFF8000}, {0xFFFF, -1}};
        for (int[] row : rows) {
            Rig rig = new Rig(ADDRESS_TO_A2 | Rig.SHORT_PLACE, row[0]);
            rig.step();
            check.equal("place " + row[0], row[1], rig.get(10));
            check.equal("one word more", Rig.START + 4, rig.pc());
        }
        Rig last = new Rig(Rig.move(Rig.BYTE, Rig.SHORT_PLACE, Rig.d(0)), 2047).write(2046, 0x1177);
        check.equal("the last byte of memory", 0, last.step());
        check.equal("is there", 0x77, last.get(0));
    }

    private static void longPlace(Check check) {
        int[] places = {0, 0x7FFF, 0x8000, 0xFFFF, 0x7FFFFFFF, 0x80000000, -1};
        for (int place : places) {
            Rig rig = new Rig(ADDRESS_TO_A2 | Rig.LONG_PLACE, place >>> 16, place & 0xFFFF);
            rig.step();
            check.equal("place " + place, place, rig.get(10));
            check.equal("two words more", Rig.START + 6, rig.pc());
        }
    }

    private static void fromPc(Check check) {
        int[][] rows = {{0, 0}, {2, 2}, {0x7FFF, 0x7FFF}, {0x8000, -0x8000}, {0xFFFE, -2}};
        for (int[] row : rows) {
            Rig rig = new Rig(ADDRESS_TO_A2 | Rig.FROM_PC, row[0]);
            rig.step();
            check.equal("by " + row[0], Rig.START + 2 + row[1], rig.get(10));
        }
        int[][] indexes = {{0x00, 0}, {0x7F, 0x7F}, {0x80, -0x80}, {0xFE, -2}};
        for (int[] row : indexes) {
            Rig rig = new Rig(ADDRESS_TO_A2 | Rig.FROM_PC_INDEXED, 0x3000 | row[0]).with(3, 0x10);
            rig.step();
            check.equal("by an index of " + row[0], Rig.START + 2 + 0x10 + row[1], rig.get(10));
        }
        Rig behindNumber = new Rig(Rig.op(12, 4, 0, 0, Rig.FROM_PC), 3, 4, 0, 0x0800);
        behindNumber.step();
        check.equal("the place of its own word, behind a number", 0, behindNumber.flags() & Rig.Z);
        Rig upper = new Rig(ADDRESS_TO_A2 | Rig.FROM_PC, 0).with(Rig.PC, 0xFF000000 | Rig.START);
        upper.step();
        check.equal("with the upper bits of the PC", 0xFF000000 | Rig.START + 2, upper.get(10));
        Rig source = new Rig(Rig.move(Rig.WORD, Rig.FROM_PC, Rig.SHORT_PLACE), 4, 0x700, 0xCAFE);
        source.step();
        check.equal("what is there", 0xCAFE, source.word(0x700));
    }

    private static void number(Check check) {
        int[][] bytes = {{0x0000, 0}, {0x0080, 0x80}, {0xFF7F, 0x7F}, {0xFF00, 0}, {0xFFFF, 0xFF}};
        for (int[] row : bytes) {
            Rig rig = new Rig(Rig.move(Rig.BYTE, Rig.NUMBER, Rig.d(0)), row[0]).with(0, 0x11111111);
            rig.step();
            check.equal("a byte of " + row[0], 0x11111100 | row[1], rig.get(0));
            check.equal("N and Z of the lower half", (row[1] > 127 ? Rig.N : 0) | (row[1] == 0 ? Rig.Z : 0),
                    rig.flags());
            check.equal("one word", Rig.START + 4, rig.pc());
        }
        Rig word = new Rig(Rig.move(Rig.WORD, Rig.NUMBER, Rig.d(0)), 0x8001);
        word.step();
        check.equal("a word", 0x8001, word.get(0));
        check.equal("one word more", Rig.START + 4, word.pc());
        Rig whole = new Rig(Rig.move(Rig.LONG, Rig.NUMBER, Rig.d(0)), 0x8001, 0x7FFE);
        whole.step();
        check.equal("a long", 0x80017FFE, whole.get(0));
        check.equal("two words more", Rig.START + 6, whole.pc());
    }

    private static void legal(Check check, String what, int word, boolean due) {
        int answer = new Rig(word, 0x2700, 0x2700, 0x2700).step();
        check.equal(what + " " + Integer.toHexString(word) + ": illegal", due ? 0 : 1, answer == 4 ? 1 : 0);
    }

    /** All 64 operands in this place of a word; one letter for each way that is of the kind. */
    private static void kind(Check check, String what, int word, int shift, String kind) {
        for (int operand = 0; operand < 64; operand++) {
            int mode = operand >>> 3;
            int way = mode < 7 ? mode : 7 + (operand & 7);
            boolean due = way < 12 && kind.charAt(way) == 'x';
            legal(check, what, word | operand << shift, due);
        }
    }

    private static void none(Check check) {
        for (int r = 5; r < 8; r++) {
            for (int size = 0; size < 3; size++) {
                legal(check, "source", Rig.move(size, 56 | r, Rig.d(0)), false);
                legal(check, "target", Rig.move(size, Rig.d(0), 56 | r), false);
            }
            legal(check, "DATA", Rig.three(7, 56 | r), false);
            legal(check, "CONTROL", Rig.three(27, 56 | r), false);
            legal(check, "changed", Rig.op(9, 1, 0, Rig.WORD, 56 | r), false);
            legal(check, "bits", Rig.op(12, 1, 1, 0, 56 | r), false);
            legal(check, "shifted", Rig.op(13, 1, 1, 3, 56 | r), false);
        }
    }

    private static void any(Check check) {
        kind(check, "a byte moved", Rig.move(Rig.BYTE, 0, Rig.d(0)), 0, "x-xxxxxxxxxx");
        kind(check, "a word moved", Rig.move(Rig.WORD, 0, Rig.d(0)), 0, "xxxxxxxxxxxx");
        kind(check, "a long moved", Rig.move(Rig.LONG, 0, Rig.d(0)), 0, "xxxxxxxxxxxx");
        kind(check, "a byte added", Rig.op(4, 0, 0, 0, 0), 0, "x-xxxxxxxxxx");
        kind(check, "a word taken away", Rig.op(5, 0, 0, 1, 0), 0, "xxxxxxxxxxxx");
        kind(check, "a byte compared", Rig.op(6, 0, 0, 0, 0), 0, "x-xxxxxxxxxx");
        kind(check, "a long compared", Rig.op(6, 0, 0, 2, 0), 0, "xxxxxxxxxxxx");
        kind(check, "a word to an A", Rig.op(4, 0, 0, 3, 0), 0, "xxxxxxxxxxxx");
    }

    private static void data(Check check) {
        kind(check, "&", Rig.op(7, 0, 0, 1, 0), 0, "x-xxxxxxxxxx");
        kind(check, "|", Rig.op(8, 0, 0, 2, 0), 0, "x-xxxxxxxxxx");
        kind(check, "times", Rig.op(7, 0, 1, 3, 0), 0, "x-xxxxxxxxxx");
        kind(check, "divided", Rig.op(8, 0, 1, 3, 0), 0, "x-xxxxxxxxxx");
        kind(check, "checked", Rig.op(14, 0, 1, 1, 0), 0, "x-xxxxxxxxxx");
        kind(check, "to the FLAGS", Rig.three(7, 0), 0, "x-xxxxxxxxxx");
        kind(check, "to the STATUS", Rig.three(11, 0), 0, "x-xxxxxxxxxx");
    }

    private static void memory(Check check) {
        kind(check, "shifted", Rig.op(13, 2, 1, 3, 0), 0, "--xxxxxxx---");
        for (int operand = 0; operand < 64; operand++) {
            if (operand >= 16) {
                int way = operand < 56 ? operand >>> 3 : 7 + (operand & 7);
                legal(check, "added to", Rig.op(4, 0, 1, 1, operand), way < 9);
                legal(check, "| to", Rig.op(8, 0, 1, 1, operand), way < 9);
            }
        }
        legal(check, "| of words to a D", Rig.op(8, 0, 1, 1, Rig.d(1)), false);
        legal(check, "| of words to an A", Rig.op(8, 0, 1, 1, Rig.a(1)), false);
    }

    private static void control(Check check) {
        kind(check, "ADDRESS to an A", Rig.op(14, 0, 1, 0, 0), 0, "--x--xxxxxx-");
        kind(check, "jump", Rig.three(27, 0), 0, "--x--xxxxxx-");
        kind(check, "call", Rig.three(26, 0), 0, "--x--xxxxxx-");
        kind(check, "ADDRESS pushed, or words exchanged", Rig.three(20, 0), 0, "x-x--xxxxxx-");
        Rig rig = new Rig(Rig.op(14, 1, 1, 0, Rig.at(0)), Rig.op(14, 1, 1, 0, Rig.SHORT_PLACE), 4096).with(8, 2049);
        check.equal("an odd and open place", 0, rig.step());
        check.equal("counts as it is", 2049, rig.get(9));
        rig.m.type(1);
        check.equal("a device's place", 0, rig.step());
        check.equal("is not read", 1, rig.m.device(3));
    }

    private static void open(Check check) {
        kind(check, "a byte's target", Rig.move(Rig.BYTE, Rig.d(0), 0), 6, "x-xxxxxxx---");
        kind(check, "a word's target", Rig.move(Rig.WORD, Rig.d(0), 0), 6, "xxxxxxxxx---");
        kind(check, "a long's target", Rig.move(Rig.LONG, Rig.d(0), 0), 6, "xxxxxxxxx---");
        kind(check, "a byte changed", Rig.op(9, 1, 0, 0, 0), 0, "x-xxxxxxx---");
        kind(check, "a word changed", Rig.op(9, 1, 1, 1, 0), 0, "xxxxxxxxx---");
        kind(check, "becomes 0", Rig.three(5, 0), 0, "x-xxxxxxx---");
        kind(check, "tested", Rig.three(17, 0), 0, "x-xxxxxxx---");
        kind(check, "compared with a number", Rig.op(12, 6, 0, 1, 0), 0, "x-xxxxxxx---");
        kind(check, "a bit asked by a number", Rig.op(12, 4, 0, 0, 0), 0, "x-xxxxxxxxx-");
        kind(check, "a bit turned by a number", Rig.op(12, 4, 0, 1, 0), 0, "x-xxxxxxx---");
        kind(check, "the STATUS moved", Rig.three(3, 0), 0, "x-xxxxxxx---");
        kind(check, "^, or compared", Rig.op(6, 0, 1, 1, 0), 0, "xxxxxxxxx---");
        kind(check, "set by a condition, or counted down", Rig.op(9, 0, 0, 3, 0), 0, "xxxxxxxxx---");
        kind(check, "0 - e IN TENS", Rig.three(15, 0), 0, "x-xxxxxxx---");
        kind(check, "tested and set", Rig.three(19, 0), 0, "x-xxxxxxx---");
        kind(check, "STORE MANY, or EXTENDED", Rig.three(21, 0), 0, "x-x-xxxxx---");
        kind(check, "LOAD MANY", Rig.three(24, 0), 0, "--xx-xxxxxx-");
    }

    private static void numbersFirst(Check check) {
        Rig sum = new Rig(Rig.op(12, 3, 0, Rig.WORD, Rig.SHORT_PLACE), 0x0720, 0x0710).write(0x710, 1).write(0x720, 2);
        sum.step();
        check.equal("the number, then the place", 0x0721, sum.word(0x710));
        Rig whole = new Rig(Rig.op(12, 0, 0, Rig.LONG, Rig.LONG_PLACE), 0, 0x0720, 0, 0x0710);
        whole.step();
        check.equal("a long of each", 0x720, whole.longAt(0x710));
        check.equal("five words", Rig.START + 10, whole.pc());
        Rig bit = new Rig(Rig.op(12, 4, 0, 3, Rig.SHORT_PLACE), 7, 0x0710);
        bit.step();
        check.equal("a bit's number", 0x80, bit.m.memory(0x710));
        Rig list = new Rig(Rig.three(22, Rig.SHORT_PLACE), 0x0002, 0x0710).with(1, 0x99);
        list.step();
        check.equal("a list", 0x99, list.longAt(0x710));
        Rig load = new Rig(Rig.three(25, Rig.FROM_PC), 0x0001, 2, 0x1234, 0x5678);
        load.step();
        check.equal("a list before a place from the PC", 0x12345678, load.get(0));
    }

    private static void order(Check check) {
        Rig same = new Rig(Rig.move(Rig.WORD, Rig.behind(0), Rig.behind(0))).with(8, 0x700).write(0x700, 0x1111);
        same.step();
        check.equal("found in turn", 0x1111, same.word(0x702));
        check.equal("changed twice", 0x704, same.get(8));
        Rig read = new Rig(Rig.move(Rig.LONG, Rig.a(0), Rig.before(0))).with(8, 0x700);
        read.step();
        check.equal("the source is read before Ar changes", 0x700, read.longAt(0x6FC));
        Rig changed = new Rig(Rig.move(Rig.WORD, Rig.behind(1), Rig.from(1)), 4).with(9, 0x700).write(0x700, 0x2222);
        changed.step();
        check.equal("what is changed is found with the new Ar", 0x2222, changed.word(0x706));
        Rig words = new Rig(Rig.move(Rig.WORD, Rig.SHORT_PLACE, Rig.SHORT_PLACE), 0x720, 0x730).write(0x720, 0x3333);
        words.step();
        check.equal("the words of the source come first", 0x3333, words.word(0x730));
        Rig sum = new Rig(Rig.op(4, 0, 0, 3, Rig.behind(0))).with(8, 0x700).write(0x700, 0x10);
        sum.step();
        check.equal("AR is read behind its growing", 0x712, sum.get(8));
        Rig compared = new Rig(Rig.op(6, 1, 1, Rig.BYTE, Rig.a(1))).with(9, 0x700).write(0x700, 0x0304);
        compared.step();
        check.equal("what it is compared with is found second", 0, compared.flags());
        check.equal("both grow", 0x702, compared.get(9));
        Rig loaded = new Rig(Rig.move(Rig.LONG, Rig.behind(2), Rig.a(2))).with(10, 0x700).write(0x700, 7, 8);
        loaded.step();
        check.equal("what is written wins over growing", 0x70008, loaded.get(10));
        Rig port = new Rig(Rig.move(Rig.BYTE, Rig.SHORT_PLACE, Rig.SHORT_PLACE), 4096, 4096);
        port.m.type(0x41);
        port.m.type(0x42);
        port.step();
        check.equal("a target of a move is not read", 1, port.m.device(3));
        check.equal("it is written", 0x41, port.m.said(0));
        Rig error = new Rig(Rig.move(Rig.BYTE, Rig.SHORT_PLACE, Rig.SHORT_PLACE), Rig.OPEN_PLACE, 4096);
        check.equal("the source is read first", 2, error.step());
        check.equal("so nothing is said", 0, error.m.device(4));
    }
}
