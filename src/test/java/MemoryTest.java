/** Promises 2 put, 3 fill, 4 fence, 13 memory: each sentence with a test of its own. */
public final class MemoryTest {

    private static final Class<IndexOutOfBoundsException> INDEX = IndexOutOfBoundsException.class;
    private static final Class<IllegalArgumentException> ARGUMENT = IllegalArgumentException.class;
    private static final int LEAST = Integer.MIN_VALUE;
    private static final int MOST = Integer.MAX_VALUE;

    public static void main(String[] args) {
        Check check = new Check("MemoryTest");
        check.sentence("Promise 2", "A word of memory.", MemoryTest::put);
        check.sentence("Promise 2", "IndexOutOfBoundsException when the place is odd", MemoryTest::putAtOdd);
        check.sentence("Promise 2", "or not 0 .. 2046.", MemoryTest::putOutside);
        check.sentence("Promise 3", "n words of memory from a place on", MemoryTest::fillPlaces);
        check.sentence("Promise 3", "the lowest n * 16 bits of words, the highest first.", MemoryTest::fillBits);
        check.sentence("Promise 3", "IllegalArgumentException when n is not 1 .. 4", MemoryTest::fillOfWrongCount);
        check.sentence("Promise 3", "else IndexOutOfBoundsException when the place is odd", MemoryTest::fillAtOdd);
        check.sentence("Promise 3", "or one of them not in memory", MemoryTest::fillOutside);
        check.sentence("Promise 3", "nothing is changed then.", MemoryTest::fillInPart);
        check.sentence("Promise 4", "The fence is at a place.", MemoryTest::fence);
        check.sentence("Promise 4", "IndexOutOfBoundsException when it is not 0 .. 2048.", MemoryTest::fenceOutside);
        check.sentence("Promise 13", "Byte of memory", MemoryTest::memory);
        check.sentence("Promise 13", "NONE if there is none such.", MemoryTest::memoryOutside);
        check.end();
    }

    private static void put(Check check) {
        Rig rig = new Rig();
        rig.write(0x2FE, 0x1111).write(0x302, 0x2222);
        rig.m.put(0x300, 0x12AB34CD);
        check.equal("highest byte first", 0x34, rig.m.memory(0x300));
        check.equal("lowest byte behind it", 0xCD, rig.m.memory(0x301));
        check.equal("not the word before", 0x1111, rig.word(0x2FE));
        check.equal("not the next word", 0x2222, rig.word(0x302));
        rig.m.put(0, 0x8001);
        check.equal("first word", 0x8001, rig.word(0));
        rig.m.put(2046, -2);
        check.equal("last word", 0xFFFE, rig.word(2046));
        rig.m.put(2046, 0x10000);
        check.equal("a word of 0", 0, rig.word(2046));
        rig.m.fence(2048);
        rig.m.put(0, 5);
        check.equal("the fence is none for put", 5, rig.word(0));
        rig.user().m.put(2, 6);
        check.equal("nor is the user's state", 6, rig.word(2));
        SupervisorMachine halted = Situation.HALTED.machine();
        halted.put(4, 0x1234);
        check.equal("nor is HALTED", 0x34, halted.memory(5));
    }

    private static void putAtOdd(Check check) {
        for (int at : new int[] {1, 0x301, 2045, 2047, 2049, -1, LEAST + 1, MOST}) {
            Refusal.throwing(check, "put at " + at, INDEX, m -> m.put(at, 0x7788));
        }
    }

    private static void putOutside(Check check) {
        for (int at : new int[] {-2, 2048, 2050, 4096, 4098, 1 << 24, LEAST, MOST - 1}) {
            Refusal.throwing(check, "put at " + at, INDEX, m -> m.put(at, 0x7788));
        }
    }

    private static void fillPlaces(Check check) {
        for (int n = 1; n <= 4; n++) {
            for (int at : new int[] {0, 0x300, 2048 - 2 * n}) {
                Rig rig = new Rig();
                int before = at == 0 ? 0 : rig.word(at - 2);
                int behind = at == 2048 - 2 * n ? 0 : rig.word(at + 2 * n);
                rig.m.fill(at, n, 0xA1A1A2A2A3A3A4A4L);
                for (int i = 0; i < n; i++) {
                    int due = 0xA1A1 + 0x0101 * (4 - n + i);
                    check.equal("word " + i + " of " + n + " at " + at, due, rig.word(at + 2 * i));
                }
                check.equal("the word before stays", before, at == 0 ? 0 : rig.word(at - 2));
                check.equal("the word behind stays", behind, at == 2048 - 2 * n ? 0 : rig.word(at + 2 * n));
            }
        }
    }

    private static void fillBits(Check check) {
        Rig rig = new Rig();
        rig.m.fill(0x300, 1, 0x1122334455667788L);
        check.equal("one: the lowest", 0x7788, rig.word(0x300));
        rig.m.fill(0x310, 2, -1);
        check.equal("two: first", 0xFFFF, rig.word(0x310));
        check.equal("two: second", 0xFFFF, rig.word(0x312));
        check.equal("two: no more", 0, rig.word(0x314));
        rig.m.fill(0x320, 3, 0x8889AAAABBBBCCCCL);
        check.equal("three: first", 0xAAAA, rig.word(0x320));
        check.equal("three: second", 0xBBBB, rig.word(0x322));
        check.equal("three: third", 0xCCCC, rig.word(0x324));
        rig.m.fill(0x330, 4, 0x8000000000000001L);
        check.equal("four: the highest bit", 0x8000, rig.word(0x330));
        check.equal("four: the lowest bit", 1, rig.word(0x336));
        check.equal("four: nothing between", 0, rig.longAt(0x332));
        rig.m.fence(2048);
        rig.m.fill(0, 2, 0x12345678);
        check.equal("the fence is none for fill", 0x12345678, rig.longAt(0));
    }

    private static void fillOfWrongCount(Check check) {
        for (int n : new int[] {0, 5, -1, LEAST, MOST, 1 << 30, LEAST + 1}) {
            Refusal.throwing(check, "fill of " + n, ARGUMENT, m -> m.fill(0x300, n, -1));
            Refusal.throwing(check, "n comes before an odd place, " + n, ARGUMENT, m -> m.fill(0x301, n, -1));
            Refusal.throwing(check, "n comes before a place outside, " + n, ARGUMENT, m -> m.fill(2048, n, -1));
        }
    }

    private static void fillAtOdd(Check check) {
        for (int at : new int[] {1, 0x301, 2039, 2047, -1, MOST, LEAST + 1}) {
            Refusal.throwing(check, "one at " + at, INDEX, m -> m.fill(at, 1, -1));
            Refusal.throwing(check, "four at " + at, INDEX, m -> m.fill(at, 4, -1));
        }
    }

    private static void fillOutside(Check check) {
        for (int n = 1; n <= 4; n++) {
            int count = n;
            for (int at : new int[] {2050 - 2 * n, 2048, -2, -2 * n, 4096, MOST - 1, LEAST, LEAST + 2}) {
                Refusal.throwing(check, n + " words at " + at, INDEX, m -> m.fill(at, count, -1));
            }
        }
    }

    private static void fillInPart(Check check) {
        Refusal.throwing(check, "three of four inside", INDEX, m -> m.fill(2042, 4, -1));
        Refusal.throwing(check, "the last three of four inside", INDEX, m -> m.fill(-2, 4, -1));
        Refusal.throwing(check, "one of two inside", INDEX, m -> m.fill(2046, 2, -1));
    }

    private static int written(int at, int fence) {
        Rig rig = new Rig(Rig.move(Rig.BYTE, Rig.d(0), Rig.at(0))).with(8, at).with(0, 0x99);
        rig.m.fence(fence);
        rig.step();
        return rig.m.memory(at) == 0x99 ? 1 : 0;
    }

    private static void fence(Check check) {
        check.equal("fence 0, byte 0", 1, written(0, 0));
        check.equal("fence 1, byte 0", 0, written(0, 1));
        check.equal("fence 1, byte 1", 1, written(1, 1));
        check.equal("an odd fence, below", 0, written(0x400, 0x401));
        check.equal("an odd fence, there", 1, written(0x401, 0x401));
        check.equal("fence 2047, last byte", 1, written(2047, 2047));
        check.equal("fence 2048, last byte", 0, written(2047, 2048));
        check.equal("fence 2048, first byte", 0, written(0, 2048));
        Rig rig = new Rig(Rig.move(Rig.BYTE, Rig.d(0), Rig.SHORT_PLACE), 0x6F0).with(0, 0x99);
        rig.m.fence(2048);
        rig.m.fence(0x6F0);
        check.equal("the latest one counts", 0, rig.step());
    }

    private static void fenceOutside(Check check) {
        for (int at : new int[] {-1, 2049, 2050, 4096, LEAST, MOST}) {
            Refusal.throwing(check, "fence at " + at, INDEX, m -> m.fence(at));
        }
    }

    private static void memory(Check check) {
        Rig rig = new Rig();
        rig.m.put(0, 0x8001);
        rig.m.put(2046, 0x80FF);
        check.equal("first byte, without a sign", 0x80, rig.m.memory(0));
        check.equal("an odd one", 1, rig.m.memory(1));
        check.equal("last byte but one", 0x80, rig.m.memory(2046));
        check.equal("last byte, without a sign", 0xFF, rig.m.memory(2047));
        rig.m.fence(2048);
        check.equal("below the fence, too", 0x80, rig.m.memory(0));
        check.equal("when HALTED, too", 0x5A, Situation.HALTED.machine().memory(0x103));
    }

    private static void memoryOutside(Check check) {
        for (int at : new int[] {-1, 2048, 4095, 4096, 4097, 4103, 1 << 24, (1 << 24) + 1, LEAST, MOST}) {
            Refusal.changesNothing(check, "memory(" + at + ")",
                    m -> check.equal("memory(" + at + ")", SupervisorMachine.NONE, m.memory(at)));
        }
    }
}
