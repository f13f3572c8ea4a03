/** The document's Terms, on which promises 6, 9, 10 and 14 rest: the bytes of the devices, at their edges. */
public final class DevicesEdgesTest {

    private static final String DEVICES = "Promise 6, Terms, the bytes of the devices";
    private static final String TYPED = "Promise 6, 9, Terms, the bytes of the devices";
    private static final String SAID = "Promise 6, 10, Terms, the bytes of the devices";

    private static final int READ = Rig.move(Rig.BYTE, Rig.SHORT_PLACE, Rig.d(0));

    public static void main(String[] args) {
        Check check = new Check("DevicesEdgesTest");
        check.sentence(TYPED, "4096, read: the first of what is TYPED", DevicesEdgesTest::firstTyped);
        check.sentence(TYPED, "(0 if nothing is)", DevicesEdgesTest::nothingTyped);
        check.sentence(TYPED, "which is gone then", DevicesEdgesTest::goneThen);
        check.sentence(SAID, "written: it is SAID", DevicesEdgesTest::said);
        check.sentence(SAID, "(64 at most, more is lost)", DevicesEdgesTest::moreIsLost);
        check.sentence(TYPED, "4097: how many are typed.", DevicesEdgesTest::howMany);
        check.sentence(DEVICES, "4098, 4099: the TIMER, a word.", DevicesEdgesTest::timer);
        check.sentence(DEVICES, "4100: its LEVEL (of what is written the lowest three bits).", DevicesEdgesTest::level);
        check.sentence(DEVICES, "4101, read: 1 if the timer ASKS, else 0", DevicesEdgesTest::asks);
        check.sentence(DEVICES, "written: it asks no more.", DevicesEdgesTest::asksNoMore);
        check.sentence(DEVICES, "4102, 4103: 0.", DevicesEdgesTest::deadBytes);
        check.sentence(DEVICES, "Writing 4097, 4102, 4103 does nothing.", DevicesEdgesTest::writingNothing);
        check.end();
    }

    private static Rig reading(int place) {
        return new Rig(READ, place, READ, place, READ, place).with(0, 0x1234);
    }

    private static Rig writing(int place, int... bytes) {
        int[] words = new int[3 * bytes.length];
        for (int i = 0; i < bytes.length; i++) {
            words[3 * i] = Rig.move(Rig.BYTE, Rig.NUMBER, Rig.SHORT_PLACE);
            words[3 * i + 1] = bytes[i];
            words[3 * i + 2] = place;
        }
        return new Rig(words);
    }

    private static void firstTyped(Check check) {
        Rig rig = reading(4096);
        rig.m.type(0xF1);
        rig.m.type(0xF2);
        rig.step();
        check.equal("the first one", 0x12F1, rig.get(0));
        rig.step();
        check.equal("then the second one", 0x12F2, rig.get(0));
        Rig zero = reading(4096);
        zero.m.type(0);
        zero.m.type(7);
        zero.step();
        check.equal("a typed 0 is one", 0x1200, zero.get(0));
        check.equal("and is gone, too", 1, zero.m.device(3));
    }

    private static void nothingTyped(Check check) {
        Rig rig = reading(4096);
        check.equal("no error", 0, rig.step());
        check.equal("0", 0x1200, rig.get(0));
        check.equal("still nothing is typed", 0, rig.m.device(3));
        rig.m.type(0x88);
        rig.step();
        check.equal("what is typed later", 0x1288, rig.get(0));
        rig.step();
        check.equal("0 again", 0x1200, rig.get(0));
    }

    private static void goneThen(Check check) {
        Rig rig = reading(4096);
        for (int i = 0; i < 16; i++) {
            rig.m.type(i);
        }
        rig.step();
        check.equal("fifteen are left", 15, rig.m.device(3));
        check.that("so there is room for one", rig.m.type(16));
        check.that("and no more", !rig.m.type(17));
        Rig error = new Rig(Rig.move(Rig.BYTE, Rig.SHORT_PLACE, Rig.SHORT_PLACE), 4096, Rig.OPEN_PLACE);
        error.m.type(9);
        check.equal("an error behind the reading", 2, error.step());
        check.equal("it is gone all the same", 0, error.m.device(3));
        Rig changed = new Rig(Rig.op(9, 1, 0, Rig.BYTE, Rig.SHORT_PLACE), 4096);
        changed.m.type(0xFF);
        changed.step();
        check.equal("read to be changed", 0, changed.m.device(3));
        check.equal("the sum is said", 0, changed.m.said(0));
        check.equal("it was too large", Rig.X | Rig.Z | Rig.C, changed.flags());
    }

    private static void said(Check check) {
        Rig rig = writing(4096, 0, 0x80, 0xFF);
        rig.m.run(3);
        check.equal("three", 3, rig.m.device(4));
        check.equal("0 is said, too", 0, rig.m.said(0));
        check.equal("second", 0x80, rig.m.said(1));
        check.equal("third", 0xFF, rig.m.said(2));
        Rig word = new Rig(Rig.move(Rig.WORD, Rig.NUMBER, Rig.SHORT_PLACE), 0xABCD, 4096);
        word.step();
        check.equal("of a word its first byte", 0xAB, word.m.said(0));
        check.equal("and no more", 1, word.m.device(4));
        check.equal("saying is not typing", 0, word.m.device(3));
    }

    private static void moreIsLost(Check check) {
        Rig rig = new Rig(Rig.move(Rig.BYTE, Rig.d(0), Rig.SHORT_PLACE), 4096,
                Rig.op(9, 1, 0, Rig.LONG, Rig.d(0)), Rig.branch(0, -8));
        for (int i = 0; i < 63; i++) {
            rig.m.run(3);
        }
        check.equal("63", 63, rig.m.device(4));
        check.equal("no 64th yet", SupervisorMachine.NONE, rig.m.said(63));
        rig.m.run(3);
        check.equal("64", 64, rig.m.device(4));
        check.equal("the 64th", 63, rig.m.said(63));
        check.equal("one more is no error", 0, rig.step());
        rig.m.run(2);
        check.equal("but it is lost", 64, rig.m.device(4));
        check.equal("not put behind the others", SupervisorMachine.NONE, rig.m.said(64));
        check.equal("nor in place of the last one", 63, rig.m.said(63));
        check.equal("nor in place of the first one", 0, rig.m.said(0));
    }

    private static void howMany(Check check) {
        Rig rig = reading(4097);
        rig.step();
        check.equal("none", 0x1200, rig.get(0));
        rig.m.type(1);
        rig.step();
        check.equal("one", 0x1201, rig.get(0));
        for (int i = 0; i < 20; i++) {
            rig.m.type(1);
        }
        rig.step();
        check.equal("sixteen", 0x1210, rig.get(0));
        check.equal("reading it takes none away", 16, rig.m.device(3));
    }

    private static void timer(Check check) {
        int[] values = {0, 1, 2, 0xFF, 0x100, 0x7FFF, 0x8000, 0xFFFF};
        for (int v : values) {
            Rig rig = new Rig(Rig.move(Rig.WORD, Rig.NUMBER, Rig.SHORT_PLACE), v, 4098,
                    Rig.move(Rig.WORD, Rig.SHORT_PLACE, Rig.d(0)), 4098);
            rig.step();
            int due = v == 0 ? 0 : v - 1;
            check.equal("written " + v, due, rig.m.device(0));
            rig.step();
            check.equal("read before the end of the step", due, rig.get(0));
        }
        Rig upper = writing(4098, 0x12, 0x00, 0xFF);
        upper.step();
        check.equal("its upper byte alone", 0x11FF, upper.m.device(0));
        upper.step();
        check.equal("0 in it", 0x00FE, upper.m.device(0));
        upper.step();
        check.equal("255 in it", 0xFFFD, upper.m.device(0));
        Rig lower = writing(4099, 0x12, 0x00, 0xFF);
        lower.step();
        check.equal("its lower byte alone", 0x11, lower.m.device(0));
        lower.step();
        check.equal("a timer of 0 by writing does not ask", 0, lower.m.device(2));
        check.equal("and stays 0", 0, lower.m.device(0));
        lower.step();
        check.equal("255 in it, too", 0xFE, lower.m.device(0));
        Rig byteRead = new Rig(Rig.move(Rig.WORD, Rig.NUMBER, Rig.SHORT_PLACE), 0x8182, 4098, READ, 4098,
                READ, 4099);
        byteRead.m.run(2);
        check.equal("its upper byte read", 0x81, byteRead.get(0));
        byteRead.step();
        check.equal("its lower byte read", 0x80, byteRead.get(0));
    }

    private static void level(Check check) {
        for (int b = 0; b < 256; b += b < 16 ? 1 : 24) {
            Rig rig = new Rig(Rig.move(Rig.BYTE, Rig.NUMBER, Rig.SHORT_PLACE), b, 4100, READ, 4100);
            rig.m.run(2);
            check.equal("written " + b, b & 7, rig.m.device(1));
            check.equal("read", b & 7, rig.get(0));
        }
        Rig all = writing(4100, 255);
        all.step();
        check.equal("all bits", 7, all.m.device(1));
    }

    private static Rig asking(int... words) {
        Rig rig = new Rig(Rig.move(Rig.WORD, Rig.NUMBER, Rig.SHORT_PLACE), 1, 4098);
        rig.write(Rig.START + 6, words);
        rig.step();
        return rig;
    }

    private static void asks(Check check) {
        Rig not = reading(4101);
        not.step();
        check.equal("it does not", 0x1200, not.get(0));
        Rig rig = asking(READ, 4101, READ, 4101).with(0, -1);
        rig.step();
        check.equal("it does", 0xFFFFFF01, rig.get(0));
        rig.step();
        check.equal("reading does not end it", 0xFFFFFF01, rig.get(0));
    }

    private static void asksNoMore(Check check) {
        for (int b : new int[] {0, 1, 255}) {
            Rig rig = asking(Rig.move(Rig.BYTE, Rig.NUMBER, Rig.SHORT_PLACE), b, 4101);
            check.equal("it asks", 1, rig.m.device(2));
            rig.step();
            check.equal("written " + b, 0, rig.m.device(2));
            Rig quiet = writing(4101, b);
            quiet.step();
            check.equal("written " + b + " when it does not ask", 0, quiet.m.device(2));
        }
        Rig both = asking(Rig.move(Rig.LONG, Rig.NUMBER, Rig.SHORT_PLACE), 1, 0x0300, 4098);
        both.step();
        check.equal("it may ask again behind the same step", 1, both.m.device(2));
        Rig level = asking(Rig.move(Rig.BYTE, Rig.NUMBER, Rig.SHORT_PLACE), 5, 4100,
                Rig.move(Rig.BYTE, Rig.NUMBER, Rig.SHORT_PLACE), 0, 4101);
        level.m.run(2);
        check.equal("the level stays", 5, level.m.device(1));
    }

    private static void deadBytes(Check check) {
        for (int place = 4102; place < 4104; place++) {
            Rig rig = new Rig(Rig.move(Rig.BYTE, Rig.NUMBER, Rig.SHORT_PLACE), 0xFF, place, READ, place)
                    .with(0, -1);
            check.equal("written", 0, rig.step());
            check.equal("read", 0, rig.step());
            check.equal("0 at " + place, 0xFFFFFF00, rig.get(0));
        }
    }

    private static void writingNothing(Check check) {
        for (int place : new int[] {4097, 4102, 4103}) {
            Rig rig = asking(Rig.move(Rig.LONG, Rig.NUMBER, Rig.SHORT_PLACE), 100, 0x0300, 4098,
                    Rig.move(Rig.BYTE, Rig.NUMBER, Rig.SHORT_PLACE), 0xFF, place);
            rig.m.type(0x11);
            rig.m.type(0x22);
            rig.step();
            check.equal("no error at " + place, 0, rig.step());
            check.equal("typed", 2, rig.m.device(3));
            check.equal("said", 0, rig.m.device(4));
            check.equal("the timer", 98, rig.m.device(0));
            check.equal("its level", 3, rig.m.device(1));
            check.equal("asks", 0, rig.m.device(2));
        }
    }
}
