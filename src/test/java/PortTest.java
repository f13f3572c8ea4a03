/** Promises 9 type, 10 said, 14 device: each sentence with a test of its own. */
public final class PortTest {

    private static final int NONE = SupervisorMachine.NONE;
    private static final int READ = Rig.move(Rig.BYTE, Rig.SHORT_PLACE, Rig.d(0));
    private static final int COUNT = Rig.move(Rig.BYTE, Rig.SHORT_PLACE, Rig.d(1));
    private static final int SAY = Rig.move(Rig.BYTE, Rig.d(0), Rig.SHORT_PLACE);

    public static void main(String[] args) {
        Check check = new Check("PortTest");
        check.sentence("Promise 9", "A byte (the lowest one of b) is TYPED", PortTest::lowestByte);
        check.sentence("Promise 9", "behind the others", PortTest::behindTheOthers);
        check.sentence("Promise 9", "false if 16 are.", PortTest::full);
        check.sentence("Promise 10", "Byte k that was SAID, 0 .. 255", PortTest::said);
        check.sentence("Promise 10", "NONE if there is none such.", PortTest::notSaid);
        check.sentence("Promise 14", "The timer (0)", PortTest::timer);
        check.sentence("Promise 14", "its level (1)", PortTest::level);
        check.sentence("Promise 14", "whether it asks (2; 1 or 0)", PortTest::asks);
        check.sentence("Promise 14", "how many bytes are typed (3)", PortTest::howManyTyped);
        check.sentence("Promise 14", "how many were said (4).", PortTest::howManySaid);
        check.sentence("Promise 14", "IndexOutOfBoundsException when there is none such.", PortTest::noDevice);
        check.end();
    }

    private static Rig reading() {
        return new Rig(READ, 4096, COUNT, 4097, Rig.branch(0, -10));
    }

    private static void lowestByte(Check check) {
        int[][] rows = {{0, 0}, {255, 255}, {256, 0}, {0x1FF, 255}, {-1, 255}, {-128, 128}, {0x12345678, 0x78},
            {Integer.MIN_VALUE, 0}, {Integer.MAX_VALUE, 255}};
        for (int[] row : rows) {
            Rig rig = reading().with(0, 0x1200);
            check.that("typed " + row[0], rig.m.type(row[0]));
            rig.step();
            check.equal("read of " + row[0], 0x1200 | row[1], rig.get(0));
        }
        for (int b : new int[] {0x37, 0x137, 0x7FFFFF37, 0xFFFFFF37}) {
            Rig instruction = new Rig().with(Rig.PC, 4096);
            instruction.m.type(b);
            check.equal("as half of an instruction", 32, instruction.step());
        }
    }

    private static void behindTheOthers(Check check) {
        Rig rig = reading();
        for (int i = 0; i < 16; i++) {
            rig.m.type(200 + i);
        }
        for (int i = 0; i < 40; i++) {
            rig.m.run(3);
            check.equal("in their order, " + i, 200 + i, rig.get(0) & 255);
            check.equal("how many are left", 15, rig.get(1) & 255);
            check.that("room for one behind the others", rig.m.type(200 + 16 + i));
        }
        Rig empty = reading();
        for (int i = 0; i < 40; i++) {
            empty.m.type(i);
            empty.m.run(3);
            check.equal("one at a time, " + i, i, empty.get(0) & 255);
            check.equal("none is left", 0, empty.get(1) & 255);
        }
    }

    private static Rig typed(int n) {
        Rig rig = reading();
        for (int i = 0; i < n; i++) {
            rig.m.type(0x40 + i);
        }
        return rig;
    }

    private static void full(Check check) {
        Rig rig = typed(0);
        for (int i = 0; i < 16; i++) {
            check.that("room for byte " + i, rig.m.type(0x40 + i));
        }
        check.that("no room for a seventeenth", !rig.m.type(0x99));
        check.that("nor for a second one", !rig.m.type(0x98));
        check.equal("sixteen are typed", 16, rig.m.device(3));
        for (int i = 0; i < 16; i++) {
            rig.m.run(3);
            check.equal("byte " + i + " is what it was", 0x40 + i, rig.get(0) & 255);
        }
        rig.m.run(3);
        check.equal("what was refused is not there", 0, rig.get(0) & 255);
        check.that("room again", rig.m.type(0x55));
        Refusal.changesNothing(check, "type when full", m -> check.that("full", !m.type(0x99)), () -> typed(16).m);
        Rig fifteen = typed(16);
        fifteen.step();
        check.that("room for one behind fifteen", fifteen.m.type(1));
        check.that("but for no other", !fifteen.m.type(2));
    }

    private static Rig speaking() {
        return new Rig(SAY, 4096, Rig.op(9, 1, 0, Rig.LONG, Rig.d(0)), Rig.branch(0, -8)).with(0, 0xC0);
    }

    private static Rig spoken(int n) {
        Rig rig = speaking();
        for (int i = 0; i < n; i++) {
            rig.m.run(3);
        }
        return rig;
    }

    private static void said(Check check) {
        Rig rig = spoken(66);
        for (int k = 0; k < 64; k++) {
            check.equal("byte " + k, 0xC0 + k & 255, rig.m.said(k));
        }
        int[] bytes = {0, 1, 127, 128, 255};
        for (int b : bytes) {
            Rig one = new Rig(SAY, 4096).with(0, 0xFFFFFF00 | b);
            one.step();
            check.equal("without a sign", b, one.m.said(0));
        }
    }

    private static void notSaid(Check check) {
        int[] counts = {0, 1, 63, 64, 66};
        for (int n : counts) {
            Rig rig = spoken(n);
            int known = Math.min(n, 64);
            for (int k : new int[] {-1, known, known + 1, 64, 65, Integer.MIN_VALUE, Integer.MAX_VALUE}) {
                check.equal("said(" + k + ") behind " + n, NONE, rig.m.said(k));
            }
            check.that("the last one", known == 0 || rig.m.said(known - 1) != NONE);
        }
        for (int k : new int[] {-1, 1, 64, Integer.MIN_VALUE, Integer.MAX_VALUE}) {
            Refusal.changesNothing(check, "said(" + k + ")", m -> check.equal("said(" + k + ")", NONE, m.said(k)));
        }
    }

    private static Rig timed(int timer, int levelAndAsks) {
        return new Rig(Rig.move(Rig.LONG, Rig.NUMBER, Rig.SHORT_PLACE), timer, levelAndAsks, 4098,
                Rig.NOTHING, Rig.NOTHING);
    }

    private static void timer(Check check) {
        int[][] rows = {{0, 0}, {1, 0}, {2, 1}, {0x8000, 0x7FFF}, {0xFFFF, 0xFFFE}, {0x100, 0xFF}};
        for (int[] row : rows) {
            Rig rig = timed(row[0], 0);
            rig.step();
            check.equal("a timer of " + row[0] + ", a step later", row[1], rig.m.device(0));
        }
    }

    private static void level(Check check) {
        int[][] rows = {{0, 0}, {7, 7}, {8, 0}, {0xFF, 7}, {0xF5, 5}};
        for (int[] row : rows) {
            Rig rig = timed(9, row[0] << 8);
            rig.step();
            check.equal("a level of " + row[0], row[1], rig.m.device(1));
        }
        Rig set = new Rig();
        set.m.level(5);
        check.equal("not the level that is set", 0, set.m.device(1));
    }

    private static void asks(Check check) {
        Rig rig = timed(2, 0);
        check.equal("not yet", 0, rig.m.device(2));
        rig.step();
        check.equal("not with 1", 0, rig.m.device(2));
        rig.step();
        check.equal("with 0", 1, rig.m.device(2));
        rig.step();
        check.equal("still", 1, rig.m.device(2));
    }

    private static void howManyTyped(Check check) {
        Rig rig = reading();
        for (int i = 0; i <= 16; i++) {
            check.equal("typed " + i, i, rig.m.device(3));
            rig.m.type(1);
        }
        check.equal("16 at most", 16, rig.m.device(3));
        rig.step();
        check.equal("one is gone", 15, rig.m.device(3));
        Rig empty = reading();
        empty.step();
        check.equal("not less than 0", 0, empty.m.device(3));
    }

    private static void howManySaid(Check check) {
        Rig rig = speaking();
        for (int i = 0; i < 67; i++) {
            check.equal("said " + i, Math.min(i, 64), rig.m.device(4));
            rig.m.run(3);
        }
        check.equal("64 at most", 64, rig.m.device(4));
    }

    private static void noDevice(Check check) {
        for (int what : new int[] {-1, 5, 6, 4096, Integer.MIN_VALUE, Integer.MAX_VALUE}) {
            Refusal.throwing(check, "device(" + what + ")", IndexOutOfBoundsException.class, m -> m.device(what));
        }
        for (int what = 0; what < 5; what++) {
            int known = what;
            Refusal.changesNothing(check, "device(" + what + ")", m -> m.device(known));
        }
    }
}
