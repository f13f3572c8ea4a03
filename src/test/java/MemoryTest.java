/** Promises 2 put, 3 fill, 4 fence (its arguments), 13 memory. */
public final class MemoryTest {

    private static final Class<IndexOutOfBoundsException> INDEX = IndexOutOfBoundsException.class;
    private static final Class<IllegalArgumentException> ARGUMENT = IllegalArgumentException.class;

    public static void main(String[] args) {
        Check check = new Check("MemoryTest");
        put(check);
        fill(check);
        fence(check);
        memory(check);
        check.end();
    }

    private static void put(Check check) {
        Rig rig = new Rig();
        rig.m.put(0x300, 0x12AB34CD);
        check.equal("highest byte first", 0x34, rig.m.memory(0x300));
        check.equal("lowest byte behind it", 0xCD, rig.m.memory(0x301));
        check.equal("not the next word", 0, rig.m.memory(0x302));
        rig.m.put(2046, -2);
        check.equal("last word", 0xFFFE, rig.word(2046));
        rig.m.fence(2048);
        rig.m.put(0, 5);
        check.equal("the fence is none for put", 5, rig.word(0));
        String before = rig.all();
        for (int at : new int[] {1, 2045, 2047, 2048, -1, -2, 4096, Integer.MIN_VALUE, Integer.MAX_VALUE - 1}) {
            check.throwing("put at " + at, INDEX, () -> rig.m.put(at, 77));
        }
        check.that("nothing is changed by a wrong put", before.equals(rig.all()));
    }

    private static void fill(Check check) {
        Rig rig = new Rig();
        rig.m.fill(0x300, 4, 0x1122334455667788L);
        check.equal("first of four", 0x1122, rig.word(0x300));
        check.equal("last of four", 0x7788, rig.word(0x306));
        rig.m.fill(0x310, 1, 0x1122334455667788L);
        check.equal("one: the lowest", 0x7788, rig.word(0x310));
        check.equal("one: no more", 0, rig.word(0x312));
        rig.m.fill(0x320, 3, -0x7777000000000000L | 0x0000AAAABBBBCCCCL);
        check.equal("three: first", 0xAAAA, rig.word(0x320));
        check.equal("three: second", 0xBBBB, rig.word(0x322));
        check.equal("three: third", 0xCCCC, rig.word(0x324));
        rig.m.fill(0x330, 2, -1);
        check.equal("two: first", 0xFFFF, rig.word(0x330));
        check.equal("two: no more", 0, rig.word(0x334));
        rig.m.fill(2040, 4, 0x0001000200030004L);
        check.equal("up to the end", 4, rig.word(2046));
        wrongFill(check, rig);
    }

    private static void wrongFill(Check check, Rig rig) {
        String before = rig.all();
        for (int n : new int[] {0, 5, -1, Integer.MAX_VALUE, Integer.MIN_VALUE}) {
            check.throwing("fill of " + n, ARGUMENT, () -> rig.m.fill(0x300, n, 1));
            check.throwing("n is looked at first, fill of " + n, ARGUMENT, () -> rig.m.fill(-1, n, 1));
        }
        check.throwing("odd", INDEX, () -> rig.m.fill(0x301, 1, 1));
        check.throwing("last one outside", INDEX, () -> rig.m.fill(2042, 4, 1));
        check.throwing("all but one outside", INDEX, () -> rig.m.fill(2046, 2, 1));
        check.throwing("outside", INDEX, () -> rig.m.fill(2048, 1, 1));
        check.throwing("first one before memory", INDEX, () -> rig.m.fill(-2, 4, 1));
        check.throwing("far away", INDEX, () -> rig.m.fill(Integer.MAX_VALUE - 1, 4, 1));
        check.throwing("far below", INDEX, () -> rig.m.fill(Integer.MIN_VALUE, 4, 1));
        check.that("nothing is changed by a wrong fill", before.equals(rig.all()));
    }

    private static void fence(Check check) {
        Rig rig = new Rig(Rig.move(Rig.BYTE, Rig.d(0), Rig.SHORT_PLACE), 0x701);
        rig.m.fence(0);
        rig.m.fence(2048);
        rig.m.fence(0x702);
        for (int at : new int[] {-1, 2049, Integer.MIN_VALUE, Integer.MAX_VALUE}) {
            check.throwing("fence at " + at, INDEX, () -> rig.m.fence(at));
        }
        check.equal("the fence stays where it was", 2, rig.step());
    }

    private static void memory(Check check) {
        Rig rig = new Rig();
        rig.m.put(2046, 0x80FF);
        check.equal("bytes have no sign", 0xFF, rig.m.memory(2047));
        check.equal("first byte of a word", 0x80, rig.m.memory(2046));
        for (int at : new int[] {-1, 2048, 4096, 1 << 24, Integer.MIN_VALUE, Integer.MAX_VALUE}) {
            check.equal("memory(" + at + ")", SupervisorMachine.NONE, rig.m.memory(at));
        }
    }
}
