/** The document's THE INSTRUCTIONS, on which promise 6 rests: 0 to 3, STORE MANY and LOAD MANY, at their edges. */
public final class MovingEdgesTest {

    private static final String MOVES = "Promise 6, THE INSTRUCTIONS, 0, 1, 2";
    private static final String THREE = "Promise 6, THE INSTRUCTIONS, 3";
    private static final String LAST = "Promise 6, THE INSTRUCTIONS, 3, 28";
    private static final String MANY = "Promise 6, THE INSTRUCTIONS, 3, STORE MANY and LOAD MANY";

    public static void main(String[] args) {
        Check check = new Check("MovingEdgesTest");
        check.sentence(MOVES, "ANY e is moved to the OPEN ANY operand of bits 6 .. 11, and TESTED",
                MovingEdgesTest::moved);
        check.sentence(MOVES, "EXTENDED to an A, without flags.", MovingEdgesTest::movedToAddress);
        check.sentence(THREE, "c 0 .. 2 (size c): OPEN DATA e becomes 0 - e IN CHAIN.",
                MovingEdgesTest::negatedInChain);
        check.sentence(THREE, "4 .. 6 (size c - 4): OPEN DATA e becomes 0, TESTED, not read.",
                MovingEdgesTest::becomesZero);
        check.sentence(THREE, "8 .. 10: 0 - e.", MovingEdgesTest::negated);
        check.sentence(THREE, "12 .. 14: e with all bits turned, TESTED.", MovingEdgesTest::turned);
        check.sentence(THREE, "16 .. 18: OPEN DATA e is TESTED.", MovingEdgesTest::tested);
        check.sentence(THREE, "3: the STATUS is moved to OPEN DATA e, a word.", MovingEdgesTest::statusMoved);
        check.sentence(THREE, "7: the FLAGS become the lowest bits of DATA e, a word", MovingEdgesTest::flagsBecome);
        check.sentence(THREE, "11: the STATUS becomes this word, PRIVILEGED.", MovingEdgesTest::statusBecomes);
        check.sentence(THREE, "15: OPEN DATA e, a byte, becomes 0 - e IN TENS.", MovingEdgesTest::negatedInTens);
        check.sentence(THREE, "19: OPEN DATA e, a byte, is TESTED, then its highest bit set.",
                MovingEdgesTest::testedAndSet);
        check.sentence(THREE, "20, M 0: the words of Dr change places, TESTED as a long",
                MovingEdgesTest::wordsChangePlaces);
        check.sentence(THREE, "CONTROL e: its ADDRESS is pushed.", MovingEdgesTest::addressPushed);
        check.sentence(THREE, "21, 22, M 0: Dr's byte is EXTENDED to a word, or its word to a long, TESTED as such.",
                MovingEdgesTest::extended);
        check.sentence(THREE,
                "26: CONTROL e: the PC (behind the instruction) is pushed, and becomes the ADDRESS; 27: without "
                + "pushing.",
                MovingEdgesTest::callsAndJumps);
        check.sentence(LAST, "28, by bits 0 .. 5: 0 .. 15 exception 32 + them.", MovingEdgesTest::calls);
        check.sentence(LAST,
                "16 + r: Ar as it was is pushed, Ar becomes A7, then A7 grows by the next word (read first) "
                + "EXTENDED.",
                MovingEdgesTest::link);
        check.sentence(LAST, "24 + r: A7 becomes Ar, a long is pulled, Ar becomes that.", MovingEdgesTest::unlink);
        check.sentence(LAST, "32 + r: the OTHER becomes Ar, 40 + r: Ar the OTHER, both PRIVILEGED.",
                MovingEdgesTest::other);
        check.sentence(LAST, "48, PRIVILEGED: timer and its level become 0, it asks no more.", MovingEdgesTest::quiet);
        check.sentence(LAST, "49: nothing.", MovingEdgesTest::nothing);
        check.sentence(LAST, "50, PRIVILEGED: the STATUS becomes the next word, and it is STOPPED.",
                MovingEdgesTest::stop);
        check.sentence(LAST,
                "51, PRIVILEGED: a word is pulled, then a long; the STATUS becomes the word, then the PC the "
                + "long.",
                MovingEdgesTest::returnFromException);
        check.sentence(LAST, "53: the PC is pulled.", MovingEdgesTest::returns);
        check.sentence(LAST, "54: exception 7 if V is 1.", MovingEdgesTest::overflow);
        check.sentence(LAST, "55: a word is pulled, then the PC; the FLAGS become the word's lowest bits.",
                MovingEdgesTest::returnWithFlags);
        check.sentence(MANY,
                "for each bit k of it that is 1, from 0 on, register k (D0 .. D7, A0 .. A7) is written, one "
                + "behind the other from the ADDRESS on.",
                MovingEdgesTest::storeMany);
        check.sentence(MANY,
                "With M 4: for each bit k, from 0 on, register 15 - k is written, each before the one before, "
                + "from Ar on; Ar becomes the last place (registers are written as they were before the "
                + "instruction).",
                MovingEdgesTest::storeManyBefore);
        check.sentence(MANY,
                "LOAD MANY, CONTROL e or M 3: for each bit k, from 0 on, register k becomes what is read, words "
                + "EXTENDED",
                MovingEdgesTest::loadMany);
        check.sentence(MANY, "with M 3 Ar becomes the place behind the last one at the end.",
                MovingEdgesTest::loadManyBehind);
        check.sentence("Promise 6, Terms, OPERANDS",
                "Whatever is not told below, or has an operand that is not of the kind that is told, is ILLEGAL.",
                MovingEdgesTest::illegal);
        check.end();
    }

    private static void moved(Check check) {
        for (int size = 0; size < 3; size++) {
            int top = 1 << (8 << size) - 1;
            int[][] rows = {{0, Rig.Z}, {1, 0}, {top - 1, 0}, {top, Rig.N}, {-1, Rig.N}};
            for (int[] row : rows) {
                Rig rig = new Rig(Rig.move(size, Rig.d(1), Rig.at(0))).with(1, row[0]).with(8, 0x700)
                        .flags(Rig.X | Rig.V | Rig.C);
                check.equal("answer", 0, rig.step());
                int got = size == 0 ? rig.m.memory(0x700) : size == 1 ? rig.word(0x700) : rig.longAt(0x700);
                check.equal("moved " + row[0] + ", size " + size,
                        size == 2 ? row[0] : row[0] & (1 << (8 << size)) - 1, got);
                check.equal("TESTED, X stays", row[1] | Rig.X, rig.flags());
            }
        }
        check.equal("size 3 is none: another instruction", 0, new Rig(Rig.three(0, Rig.d(0))).step());
    }

    private static void movedToAddress(Check check) {
        int[][] rows = {{0x12347FFF, 0x7FFF}, {0x12348000, 0xFFFF8000}, {0x1234FFFF, -1}, {0x12340000, 0}};
        for (int[] row : rows) {
            for (int flags : new int[] {0, 31}) {
                Rig rig = new Rig(Rig.move(Rig.WORD, Rig.d(1), Rig.a(2)), Rig.move(Rig.LONG, Rig.d(1), Rig.a(3)))
                        .with(1, row[0]).with(10, 0x55555555).flags(flags);
                rig.m.run(2);
                check.equal("EXTENDED", row[1], rig.get(10));
                check.equal("a long as it is", row[0], rig.get(11));
                check.equal("without flags", flags, rig.flags());
            }
        }
        check.equal("no byte", 4, new Rig(Rig.move(Rig.BYTE, Rig.d(1), Rig.a(2))).step());
    }

    /** Rows of: a D, flags before, the D then, flags then; in memory only its bytes of the size can be seen. */
    private static void single(Check check, int code, int[][] rows) {
        for (int[] row : rows) {
            String what = "c " + code + " of " + Integer.toHexString(row[0]) + " with " + row[1];
            for (int r = 0; r < 8; r++) {
                Rig rig = new Rig(Rig.three(code, Rig.d(r))).with(r, row[0]).flags(row[1]);
                check.equal(what, 0, rig.step());
                check.equal(what + ": result", row[2], rig.get(r));
                check.equal(what + ": flags", row[3], rig.flags());
            }
            if (code < 20) {
                int size = code == 15 || code == 19 ? Rig.BYTE : code % 4;
                int shift = 32 - (8 << size);
                int rest = size == Rig.LONG ? 0 : 0x55AA55AA & (1 << shift) - 1;
                int before = row[0] << shift | rest;
                Rig rig = new Rig(Rig.three(code, Rig.behind(3))).with(11, 0x700).flags(row[1]);
                rig.write(0x700, before >>> 16, before & 0xFFFF);
                check.equal(what + " in memory", 0, rig.step());
                check.equal(what + " in memory: result", row[2] << shift | rest, rig.longAt(0x700));
                check.equal(what + " in memory: flags", row[3], rig.flags());
                check.equal(what + " in memory: found once", 0x700 + (1 << size), rig.get(11));
            }
        }
    }

    private static void negatedInChain(Check check) {
        single(check, 0, new int[][] {
            {0x1100, 4, 0x1100, 4}, {0x1100, 0, 0x1100, 0}, {0x1100, 20, 0x11FF, 25}, {0x80, 0, 0x80, 27},
            {0x80, 16, 0x7F, 17},
            {0xFF, 20, 0x00, 21}, {0xFF, 16, 0x00, 17}, {1, 31, 0xFE, 25}, {0x7F, 16, 0x80, 25},
        });
        single(check, 1, new int[][] {
            {0x110000, 4, 0x110000, 4}, {0x8000, 0, 0x8000, 27}, {0x8000, 16, 0x7FFF, 17}, {0xFFFF, 20, 0, 21},
        });
        single(check, 2, new int[][] {
            {0, 4, 0, 4}, {0, 16, -1, 25}, {0x80000000, 0, 0x80000000, 27}, {0x80000000, 16, 0x7FFFFFFF, 17},
            {-1, 20, 0, 21},
        });
    }

    private static void becomesZero(Check check) {
        int[] due = {0xFFFFFF00, 0xFFFF0000, 0};
        for (int size = 0; size < 3; size++) {
            single(check, 4 + size, new int[][] {{-1, 31, due[size], 20}, {0, 0, 0, 4}});
        }
        Rig rig = new Rig(Rig.three(4, Rig.SHORT_PLACE), 4096);
        rig.m.type(1);
        rig.step();
        check.equal("not read", 1, rig.m.device(3));
        check.equal("0 was said", 0, rig.m.said(0));
    }

    private static void negated(Check check) {
        single(check, 8, new int[][] {
            {0x1100, 31, 0x1100, 4}, {1, 0, 0xFF, 25}, {0x7F, 0, 0x81, 25}, {0x80, 0, 0x80, 27}, {0xFF, 31, 1, 17},
        });
        single(check, 9, new int[][] {
            {0x110000, 31, 0x110000, 4}, {0x7FFF, 0, 0x8001, 25}, {0x8000, 0, 0x8000, 27}, {0xFFFF, 16, 1, 17},
        });
        single(check, 10, new int[][] {
            {0, 31, 0, 4}, {0x7FFFFFFF, 0, 0x80000001, 25}, {0x80000000, 0, 0x80000000, 27}, {-1, 0, 1, 17},
        });
    }

    private static void turned(Check check) {
        single(check, 12, new int[][] {{0x11FF, 31, 0x1100, 20}, {0, 19, 0xFF, 24},
            {0x80, 3, 0x7F, 0}});
        single(check, 13, new int[][] {{0x11FFFF, 31, 0x110000, 20}, {0x7FFF, 3, 0x8000, 8}});
        single(check, 14, new int[][] {{-1, 31, 0, 20}, {0, 3, -1, 8},
            {0x80000000, 3, 0x7FFFFFFF, 0}});
    }

    private static void tested(Check check) {
        single(check, 16, new int[][] {{0x1100, 31, 0x1100, 20}, {0x80, 3, 0x80, 8},
            {0x7F, 31, 0x7F, 16}});
        single(check, 17, new int[][] {{0x110000, 3, 0x110000, 4}, {0x8000, 3, 0x8000, 8}});
        single(check, 18, new int[][] {{0, 3, 0, 4}, {0x80000000, 3, 0x80000000, 8}});
        Rig rig = new Rig(Rig.three(17, Rig.SHORT_PLACE), 0x10);
        rig.m.fence(2048);
        check.equal("nothing is written", 0, rig.step());
        check.equal("a number is not tested", 4, new Rig(Rig.three(16, Rig.NUMBER)).step());
    }

    private static void statusMoved(Check check) {
        Rig rig = new Rig(Rig.three(3, Rig.d(0)), Rig.three(3, Rig.behind(0))).with(0, -1).with(8, 0x700).flags(21);
        rig.m.run(2);
        check.equal("to a D, a word of it", 0xFFFF2715, rig.get(0));
        check.equal("to memory", 0x2715, rig.word(0x700));
        check.equal("grown by a word", 0x702, rig.get(8));
        check.equal("flags stay", 21, rig.flags());
        Rig user = new Rig(Rig.three(3, Rig.d(0))).user().with(Rig.STATUS, 0x071F);
        check.equal("by the user, too", 0, user.step());
        check.equal("his STATUS", 0x071F, user.get(0));
    }

    private static void flagsBecome(Check check) {
        for (int flags = 0; flags < 32; flags++) {
            Rig rig = new Rig(Rig.three(7, Rig.NUMBER), 0xFFE0 | flags).with(Rig.STATUS, 0x2200 | 31 - flags);
            rig.step();
            check.equal("flags " + flags, 0x2200 | flags, rig.get(Rig.STATUS));
        }
        Rig word = new Rig(Rig.three(7, Rig.behind(0))).with(8, 0x700).write(0x700, 0xFF05).user();
        check.equal("by the user, too", 0, word.step());
        check.equal("of a word its lower half", 5, word.get(Rig.STATUS));
        check.equal("a word is read", 0x702, word.get(8));
    }

    private static void statusBecomes(Check check) {
        Rig rig = new Rig(Rig.three(11, Rig.behind(0))).with(8, 0x700).write(0x700, 0xFFFF);
        rig.step();
        check.equal("all of it", 0xA71F, rig.get(Rig.STATUS));
        rig = new Rig(Rig.three(11, Rig.NUMBER), 0x5FFF).with(Rig.OTHER, 99);
        rig.step();
        check.equal("to the user's state", 0x071F, rig.get(Rig.STATUS));
        check.equal("with his A7", 99, rig.get(15));
        rig = new Rig(Rig.three(11, Rig.behind(0))).with(8, 0x700).user();
        check.equal("the user may not", 8, rig.step());
        check.equal("so nothing is found", 0x700, rig.get(8));
    }

    private static void negatedInTens(Check check) {
        int[][] rows = {{0x00, 0, 0x00, 0}, {0x00, 4, 0x00, 4}, {0x00, 20, 0x99, 25}, {0x01, 6, 0x99, 25},
            {0x99, 16, 0x00, 17},
            {0x99, 20, 0x00, 21}, {0x10, 0, 0x90, 25}, {0x50, 2, 0x50, 17}};
        for (int[] row : rows) {
            single(check, 15, new int[][] {{0x1100 | row[0], row[1], 0x1100 | row[2], row[3]}});
        }
    }

    private static void testedAndSet(Check check) {
        single(check, 19, new int[][] {
            {0x1100, 31, 0x1180, 20}, {0x7F, 31, 0xFF, 16}, {0x80, 3, 0x80, 8}, {0xFF, 3, 0xFF, 8},
        });
        Rig rig = new Rig(Rig.three(19, Rig.behind(0))).with(8, 0x701).write(0x700, 0xFF01, 0xFFFF);
        rig.step();
        check.equal("the byte alone", 0xFF81, rig.word(0x700));
        check.equal("grown by one", 0x702, rig.get(8));
    }

    private static void wordsChangePlaces(Check check) {
        single(check, 20, new int[][] {
            {0x12348000, 19, 0x80001234, 24}, {0x80000001, 3, 0x00018000, 0}, {0, 31, 0, 20},
            {0x0000FFFF, 0, 0xFFFF0000, 8},
            {0xFFFF0000, 31, 0x0000FFFF, 16},
        });
    }

    private static void addressPushed(Check check) {
        Rig rig = new Rig(Rig.three(20, Rig.at(7)), Rig.three(20, Rig.LONG_PLACE), 0xFFFF, 0xFFFF).flags(31);
        rig.step();
        check.equal("A7 as it was", Rig.STACK, rig.longAt(Rig.STACK - 4));
        rig.step();
        check.equal("all 32 bits, odd and open too", -1, rig.longAt(Rig.STACK - 8));
        check.equal("A7", Rig.STACK - 8, rig.get(15));
        check.equal("flags stay", 31, rig.flags());
    }

    private static void extended(Check check) {
        single(check, 21, new int[][] {
            {0x1234567F, 31, 0x1234007F, 16}, {0x12345680, 3, 0x1234FF80, 8}, {0x1234FF00, 3, 0x12340000, 4},
            {0xFF, 0, 0xFFFF, 8},
        });
        single(check, 22, new int[][] {
            {0x12347FFF, 31, 0x7FFF, 16}, {0x12348000, 3, 0xFFFF8000, 8}, {0xFFFF0000, 3, 0, 4}, {0xFFFF, 0, -1, 8},
        });
    }

    private static void callsAndJumps(Check check) {
        Rig rig = new Rig(Rig.three(26, Rig.LONG_PLACE), 0x1200, 0x0401).flags(31);
        rig.step();
        check.equal("to an odd place", 0x12000401, rig.pc());
        check.equal("pushed: behind all words of it", Rig.START + 6, rig.longAt(Rig.STACK - 4));
        check.equal("flags stay", 31, rig.flags());
        rig = new Rig(Rig.three(26, Rig.at(7)));
        rig.step();
        check.equal("the ADDRESS is found before the pushing", Rig.STACK, rig.pc());
        rig = new Rig(Rig.three(27, Rig.at(0))).with(8, -1);
        check.equal("a jump to an open place is done", 0, rig.step());
        check.equal("PC", -1, rig.pc());
        check.equal("nothing is pushed", Rig.STACK, rig.get(15));
        rig = new Rig(Rig.three(27, Rig.at(0))).with(8, 0x400).with(15, 1);
        check.equal("so the stack does not matter", 0, rig.step());
    }

    private static void calls(Check check) {
        for (int k = 0; k < 16; k++) {
            Rig rig = new Rig(Rig.three(28, k)).flags(31);
            check.equal("bits " + k, 32 + k, rig.step());
            check.equal("flags stay", 31, rig.flags());
            check.equal("PC of the next", Rig.START + 2, rig.longAt(Rig.STACK - 4));
        }
    }

    private static void link(Check check) {
        int[][] rows = {{0, 0}, {0x7FFF, 0x7FFF}, {0x8000, -0x8000}, {0xFFF0, -16}};
        for (int[] row : rows) {
            Rig rig = new Rig(0x3715, row[0]).with(13, 0x12345678).flags(31);
            check.equal("link", 0, rig.step());
            check.equal("pushed", 0x12345678, rig.longAt(Rig.STACK - 4));
            check.equal("A5", Rig.STACK - 4, rig.get(13));
            check.equal("A7 grows by " + row[0], Rig.STACK - 4 + row[1], rig.get(15));
            check.equal("flags stay", 31, rig.flags());
        }
        Rig seven = new Rig(0x3717, 8);
        seven.step();
        check.equal("A7 as it was is pushed", Rig.STACK, seven.longAt(Rig.STACK - 4));
        check.equal("A7 is what has grown", Rig.STACK + 4, seven.get(15));
        Rig word = new Rig().write(2046, 0x3715).user().with(Rig.PC, 2046).with(15, 4099);
        check.equal("the word is read first", 2, word.step());
        check.equal("its place", 2048, word.longAt(Rig.STACK - 12));
    }

    private static void unlink(Check check) {
        Rig rig = new Rig(0x371D).with(13, 0x700).write(0x700, 0x1122, 0x3344).flags(31);
        rig.step();
        check.equal("A5", 0x11223344, rig.get(13));
        check.equal("A7", 0x704, rig.get(15));
        check.equal("flags stay", 31, rig.flags());
        Rig seven = new Rig(0x371F).write(Rig.STACK, 0x1122, 0x3344);
        seven.step();
        check.equal("A7 is what was pulled, not what has grown", 0x11223344, seven.get(15));
        Rig end = new Rig(0x371D).with(13, 2044);
        check.equal("up to the end of memory", 0, end.step());
        check.equal("A7 behind it", 2048, end.get(15));
    }

    private static void other(Check check) {
        for (int r = 0; r < 8; r++) {
            Rig to = new Rig(0x3720 + r).with(8 + r, 0x400 + r);
            check.equal("to the OTHER", 0, to.step());
            check.equal("from A" + r, 0x400 + r, to.get(Rig.OTHER));
            Rig from = new Rig(0x3728 + r).with(Rig.OTHER, -r);
            check.equal("from the OTHER", 0, from.step());
            check.equal("to A" + r, -r, from.get(8 + r));
            check.equal("the OTHER stays", -r, from.get(Rig.OTHER));
            check.equal("not by the user", 8, new Rig(0x3720 + r).user().step());
            check.equal("nor from it", 8, new Rig(0x3728 + r).user().step());
        }
    }

    private static void quiet(Check check) {
        Rig rig = new Rig(Rig.move(Rig.LONG, Rig.NUMBER, Rig.SHORT_PLACE), 1, 0x0500, 4098,
                Rig.move(Rig.WORD, Rig.NUMBER, Rig.SHORT_PLACE), 500, 4098, 0x3730);
        rig.m.run(2);
        check.equal("the timer", 499, rig.m.device(0));
        check.equal("it asks", 1, rig.m.device(2));
        rig.step();
        check.equal("timer", 0, rig.m.device(0));
        check.equal("level", 0, rig.m.device(1));
        check.equal("asks no more", 0, rig.m.device(2));
        check.equal("not by the user", 8, new Rig(0x3730).user().step());
    }

    private static void nothing(Check check) {
        Rig rig = new Rig(Rig.NOTHING).flags(31);
        for (int what = 0; what < 15; what++) {
            rig.with(what, ~what);
        }
        check.equal("done", 0, rig.step());
        for (int what = 0; what < 15; what++) {
            check.equal("register " + what, ~what, rig.get(what));
        }
        check.equal("A7", Rig.STACK, rig.get(15));
        check.equal("STATUS", 0x271F, rig.get(Rig.STATUS));
        check.equal("PC", Rig.START + 2, rig.pc());
    }

    private static void stop(Check check) {
        Rig rig = new Rig(Rig.STOP, 0xFFFF);
        check.equal("done", 0, rig.step());
        check.equal("STATUS", 0xA71F, rig.get(Rig.STATUS));
        check.equal("STOPPED", 1, rig.m.state());
        check.equal("PC behind both words", Rig.START + 4, rig.pc());
        rig = new Rig(Rig.STOP, 0).with(Rig.OTHER, Rig.USER_STACK);
        check.equal("to the user's state", 0, rig.step());
        check.equal("his A7", Rig.USER_STACK, rig.get(15));
        check.equal("STOPPED there", 1, rig.m.state());
        rig = new Rig(Rig.STOP, 0).user();
        check.equal("not by the user", 8, rig.step());
        check.equal("not STOPPED", 0, rig.m.state());
    }

    private static void returnFromException(Check check) {
        Rig rig = new Rig(0x3733).with(15, 2042).with(Rig.OTHER, 0x500).write(2042, 0x5FFF, 0xFFFF, 0xFFFF);
        check.equal("up to the end of memory", 0, rig.step());
        check.equal("STATUS", 0x071F, rig.get(Rig.STATUS));
        check.equal("PC, odd and open too", -1, rig.pc());
        check.equal("A7 of the user", 0x500, rig.get(15));
        check.equal("both were pulled from the supervisor's stack", 2048, rig.get(Rig.OTHER));
        rig = new Rig(0x3733).user().write(Rig.USER_STACK, 0x2700);
        check.equal("not by the user", 8, rig.step());
        check.equal("nothing is pulled", Rig.USER_STACK, rig.get(Rig.OTHER));
    }

    private static void returns(Check check) {
        Rig rig = new Rig(0x3735).with(15, 2044).write(2044, 0xFFFF, 0xFFFF).flags(31);
        check.equal("up to the end of memory", 0, rig.step());
        check.equal("PC, odd and open too", -1, rig.pc());
        check.equal("A7", 2048, rig.get(15));
        check.equal("flags stay", 31, rig.flags());
        check.equal("the next step has the error", 3, rig.step());
    }

    private static void overflow(Check check) {
        for (int flags = 0; flags < 32; flags++) {
            Rig rig = new Rig(0x3736).flags(flags);
            check.equal("flags " + flags, (flags & Rig.V) != 0 ? 7 : 0, rig.step());
            check.equal("flags stay", flags, rig.flags());
        }
    }

    private static void returnWithFlags(Check check) {
        Rig rig = new Rig(0x3737).with(15, 2042).write(2042, 0xFFF5, 0x0012, 0x3457).with(Rig.STATUS, 0x2300);
        check.equal("up to the end of memory", 0, rig.step());
        check.equal("flags alone", 0x2315, rig.get(Rig.STATUS));
        check.equal("PC", 0x123457, rig.pc());
        check.equal("A7", 2048, rig.get(15));
        check.equal("by the user, too", 0, new Rig(0x3737).user().step());
    }

    private static Rig numbered(int... words) {
        Rig rig = new Rig(words);
        for (int k = 0; k < 15; k++) {
            rig.with(k, 0x10101 * (k + 1));
        }
        return rig;
    }

    private static void storeMany(Check check) {
        for (int k = 0; k < 16; k++) {
            Rig rig = numbered(Rig.three(22, Rig.SHORT_PLACE), 1 << k, 0x700);
            int due = rig.get(k);
            rig.step();
            check.equal("bit " + k, due, rig.longAt(0x700));
            check.equal("and no more", 0, rig.longAt(0x704));
            rig = numbered(Rig.three(21, Rig.SHORT_PLACE), 1 << k, 0x700);
            rig.step();
            check.equal("a word, bit " + k, due << 16, rig.longAt(0x700));
        }
        Rig all = numbered(Rig.three(22, Rig.SHORT_PLACE), 0xFFFF, 0x7C0).flags(21);
        check.equal("all, up to the end of memory", 0, all.step());
        for (int k = 0; k < 16; k++) {
            check.equal("register " + k, all.get(k), all.longAt(0x7C0 + 4 * k));
        }
        check.equal("flags stay", 21, all.flags());
        check.equal("one word further does not fit", 2, numbered(Rig.three(22, Rig.SHORT_PLACE), 0xFFFF, 0x7C2).step());
        Rig none = numbered(Rig.three(22, Rig.at(0)), 0).with(8, 3001);
        check.equal("an empty list has no access", 0, none.step());
        check.equal("A0 stays", 3001, none.get(8));
        check.equal("both words are read", Rig.START + 4, none.pc());
    }

    private static void storeManyBefore(Check check) {
        for (int k = 0; k < 16; k++) {
            Rig rig = numbered(Rig.three(22, Rig.before(0)), 1 << k).with(8, 0x704);
            int due = rig.get(15 - k);
            rig.step();
            check.equal("bit " + k, due, rig.longAt(0x700));
            check.equal("A0 is the place", 0x700, rig.get(8));
        }
        Rig all = numbered(Rig.three(22, Rig.before(2)), 0xFFFF).with(10, 2048);
        check.equal("all, from the end of memory", 0, all.step());
        for (int k = 0; k < 16; k++) {
            check.equal("register " + k + " as it was", k == 10 ? 2048 : all.get(k), all.longAt(2048 - 64 + 4 * k));
        }
        check.equal("A2 is the last place", 2048 - 64, all.get(10));
        Rig words = numbered(Rig.three(21, Rig.before(7)), 0x8001);
        words.step();
        check.equal("words before A7", Rig.STACK - 4, words.get(15));
        check.equal("A7 as it was", Rig.STACK, words.word(Rig.STACK - 2));
        check.equal("D0 below it", 0x0101, words.word(Rig.STACK - 4));
        Rig none = numbered(Rig.three(22, Rig.before(1)), 0).with(9, 0x701);
        check.equal("an empty list has no access", 0, none.step());
        check.equal("A1 stays", 0x701, none.get(9));
        Rig error = numbered(Rig.three(22, Rig.before(1)), 0xC000).with(9, 0x404);
        error.m.fence(0x400);
        check.equal("the second one is below the fence", 2, error.step());
        check.equal("A1 as before", 0x404, error.get(9));
        check.equal("the first one stays written", 0x20202, error.longAt(0x400));
    }

    private static void loadMany(Check check) {
        for (int k = 0; k < 16; k++) {
            Rig rig = numbered(Rig.three(25, Rig.SHORT_PLACE), 1 << k, 0x700).write(0x700, 0x8765, 0x4321);
            rig.step();
            for (int what = 0; what < 15; what++) {
                check.equal("bit " + k + ", register " + what, what == k ? 0x87654321 : 0x10101 * (what + 1),
                        rig.get(what));
            }
            check.equal("bit " + k + ", A7", k == 15 ? 0x87654321 : Rig.STACK, rig.get(15));
            for (int word : new int[] {0x7FFF, 0x8000}) {
                rig = numbered(Rig.three(24, Rig.SHORT_PLACE), 1 << k, 0x700).write(0x700, word);
                rig.step();
                check.equal("a word EXTENDED, bit " + k, (short) word, rig.get(k));
            }
        }
        Rig all = numbered(Rig.three(24, Rig.SHORT_PLACE), 0xFFFF, 2016).flags(21);
        for (int k = 0; k < 16; k++) {
            all.write(2016 + 2 * k, 0x100 + k);
        }
        check.equal("all, up to the end of memory", 0, all.step());
        for (int k = 0; k < 16; k++) {
            check.equal("register " + k, 0x100 + k, all.get(k));
        }
        check.equal("flags stay", 21, all.flags());
        Rig error = numbered(Rig.three(25, Rig.at(1)), 0x0007).with(9, 2040).write(2040, 1, 2, 3, 4);
        check.equal("the third long is open", 2, error.step());
        check.equal("D0 as before", 0x10101, error.get(0));
        check.equal("its place", 2048, error.longAt(Rig.STACK - 12));
        Rig own = numbered(Rig.three(25, Rig.at(1)), 0x0600).with(9, 0x700).write(0x700, 1, 2, 3, 4);
        own.step();
        check.equal("the register of the place may be among them", 0x10002, own.get(9));
        check.equal("the next one is read behind the first", 0x30004, own.get(10));
    }

    private static void loadManyBehind(Check check) {
        for (int size = 1; size < 3; size++) {
            Rig rig = numbered(Rig.three(23 + size, Rig.behind(1)), 0x0205).with(9, 0x700);
            rig.write(0x700, 1, 2, 3, 4, 5, 6);
            rig.step();
            check.equal("A1 is the place, though it is in the list", 0x700 + 3 * (1 << size), rig.get(9));
            check.equal("D0", size == 1 ? 1 : 0x10002, rig.get(0));
            check.equal("D2", size == 1 ? 2 : 0x30004, rig.get(2));
            check.equal("D1 stays", 0x20202, rig.get(1));
        }
        Rig end = numbered(Rig.three(25, Rig.behind(1)), 0x0001).with(9, 2044);
        check.equal("the last long", 0, end.step());
        check.equal("behind memory", 2048, end.get(9));
        Rig none = numbered(Rig.three(25, Rig.behind(1)), 0).with(9, 0x701);
        check.equal("an empty list has no access", 0, none.step());
        check.equal("A1 stays", 0x701, none.get(9));
        Rig stack = numbered(Rig.three(24, Rig.behind(7)), 0x0003);
        stack.step();
        check.equal("words behind A7", Rig.STACK + 4, stack.get(15));
    }

    private static void illegal(Check check) {
        for (int operand = 0; operand < 64; operand++) {
            check.equal("c 23 with " + operand, 4, new Rig(Rig.three(23, operand)).step());
            for (int c = 29; c < 64; c++) {
                check.equal("c " + c + " with " + operand, 4, new Rig(Rig.three(c, operand)).step());
            }
        }
        for (int bits : new int[] {52, 56, 57, 58, 59, 60, 61, 62, 63}) {
            check.equal("c 28 with " + bits, 4, new Rig(Rig.three(28, bits)).step());
        }
        for (int bits : new int[] {15, 16, 47, 48, 49, 51, 53, 54, 55}) {
            check.that("c 28 with " + bits + " is told", new Rig(Rig.three(28, bits), 0x2700).step() != 4);
        }
    }
}
