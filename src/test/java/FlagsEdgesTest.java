/** The document's Terms, on which promise 6 rests: FLAGS and CONDITIONS, at their edges and for all bytes. */
public final class FlagsEdgesTest {

    private static final String FLAGS = "Promise 6, Terms, FLAGS";
    private static final int[] EDGES = {0, 1, 2, 0x7E, 0x7F, 0x80, 0x81, 0xFE, 0xFF};

    public static void main(String[] args) {
        Check check = new Check("FlagsEdgesTest");
        check.sentence(FLAGS, "TESTING a number of a size: N its highest bit, Z whether it is 0, V and C 0.",
                FlagsEdgesTest::testing);
        check.sentence(FLAGS,
                "ADDING: N and Z likewise of the sum, V whether the sum of numbers with signs does not fit, C "
                + "whether that of those without does not; X like C.",
                FlagsEdgesTest::adding);
        check.sentence(FLAGS, "TAKING AWAY likewise, C for a borrow.", FlagsEdgesTest::takingAway);
        check.sentence(FLAGS, "COMPARING b with a takes a away from b, but keeps only N, Z, V, C.",
                FlagsEdgesTest::comparing);
        check.sentence(FLAGS, "IN CHAIN: X is added, or taken away, too", FlagsEdgesTest::inChain);
        check.sentence(FLAGS, "and Z stays as it was where the result is 0.", FlagsEdgesTest::chainOfZero);
        check.sentence(FLAGS,
                "s = (a & 15) + (b & 15) + X, if that is above 9 6 more, + (a & 240) + (b & 240), and if that is "
                + "above 159 96 more, and X and C become 1, else 0",
                FlagsEdgesTest::addingInTens);
        check.sentence(FLAGS,
                "s = (b & 15) - (a & 15) - X, if below 0 6 less, + (b & 240) - (a & 240), and if that is below 0 "
                + "96 less, and X and C become 1, else 0.",
                FlagsEdgesTest::takingAwayInTens);
        check.sentence(FLAGS,
                "The byte of s is the result; N its highest bit, V 0, and Z becomes 0 if it is not 0, else it "
                + "stays.",
                FlagsEdgesTest::resultInTens);
        check.sentence("Promise 6, Terms, CONDITIONS",
                "0 always, 1 never, 2 neither C nor Z, 3 C or Z, 4 not C, 5 C, 6 not Z, 7 Z, 8 not V, 9 V, 10 "
                + "not N, 11 N, 12 N as V, 13 not 12, 14 12 and not Z, 15 not 14.",
                FlagsEdgesTest::conditions);
        check.end();
    }

    private static long unsigned(int value, int size) {
        return value & (1L << (8 << size)) - 1;
    }

    private static long signed(int value, int size) {
        return size == 0 ? (byte) value : size == 1 ? (short) value : value;
    }

    private static int widened(int edge, int size) {
        return size == 0 ? edge : size == 1 ? edge << 8 | edge & 1 : edge << 24 | edge & 1;
    }

    /** Flags of b + sign * (a + x), X among them, told by numbers that have room for all. */
    private static int sumFlags(int b, int a, int x, int sign, int size) {
        long plain = unsigned(b, size) + sign * (unsigned(a, size) + x);
        long withSigns = signed(b, size) + sign * (signed(a, size) + x);
        long result = plain & (1L << (8 << size)) - 1;
        boolean carry = plain < 0 || plain != result;
        boolean over = withSigns != signed((int) result, size);
        boolean negative = signed((int) result, size) < 0;
        return (carry ? Rig.X | Rig.C : 0) | (negative ? Rig.N : 0) | (result == 0 ? Rig.Z : 0) | (over ? Rig.V : 0);
    }

    private static void testing(Check check) {
        for (int size = 0; size < 3; size++) {
            int top = 1 << (8 << size) - 1;
            int[][] rows = {{0, Rig.Z}, {1, 0}, {top - 1, 0}, {top, Rig.N}, {-1, Rig.N}};
            for (int[] row : rows) {
                for (int before : new int[] {0, 31}) {
                    Rig rig = new Rig(Rig.three(16 + size, Rig.d(0))).with(0, row[0]).flags(before);
                    rig.step();
                    check.equal("size " + size + " of " + row[0], row[1] | before & Rig.X, rig.flags());
                    check.equal("it stays", row[0], rig.get(0));
                }
            }
        }
        int[][] rest = {{0, 0x12345600}, {1, 0x12340000}, {0, 0xFFFFFF00}};
        for (int[] row : rest) {
            Rig rig = new Rig(Rig.three(16 + row[0], Rig.d(0))).with(0, row[1]);
            rig.step();
            check.equal("the rest of a D does not count", Rig.Z, rig.flags());
        }
    }

    /** Both numbers of each pair of edges, in each size; D0 is b and D1 is a. */
    private static void sums(Check check, String what, int word, int sign, boolean compares) {
        for (int size = 0; size < 3; size++) {
            for (int high : EDGES) {
                for (int low : EDGES) {
                    int b = widened(high, size);
                    int a = widened(low, size);
                    for (int before : new int[] {0, 31}) {
                        Rig rig = new Rig(word | size << 6).with(0, b).with(1, a).flags(before);
                        rig.step();
                        int due = sumFlags(b, a, 0, sign, size);
                        int mask = (int) unsigned(-1, size);
                        String text = what + " " + Integer.toHexString(b) + ", " + Integer.toHexString(a)
                                + ", size " + size;
                        check.equal(text + ": flags", compares ? due & ~Rig.X | before & Rig.X : due, rig.flags());
                        check.equal(text + ": result", compares ? b : b & ~mask | b + sign * a & mask, rig.get(0));
                    }
                }
            }
        }
    }

    private static void adding(Check check) {
        sums(check, "sum", Rig.op(4, 0, 0, 0, Rig.d(1)), 1, false);
    }

    private static void takingAway(Check check) {
        sums(check, "difference", Rig.op(5, 0, 0, 0, Rig.d(1)), -1, false);
    }

    private static void comparing(Check check) {
        sums(check, "compared", Rig.op(6, 0, 0, 0, Rig.d(1)), -1, true);
    }

    private static void inChain(Check check) {
        for (int sign = -1; sign <= 1; sign += 2) {
            for (int size = 0; size < 3; size++) {
                for (int high : EDGES) {
                    for (int low : EDGES) {
                        chain(check, sign, size, widened(high, size), widened(low, size));
                    }
                }
            }
        }
    }

    private static void chain(Check check, int sign, int size, int b, int a) {
        for (int x = 0; x < 2; x++) {
            Rig rig = new Rig(Rig.op(sign > 0 ? 4 : 5, 0, 1, size, Rig.d(1))).with(0, b).with(1, a).flags(x * Rig.X);
            rig.step();
            int mask = (int) unsigned(-1, size);
            String text = Integer.toHexString(b) + ", " + Integer.toHexString(a) + ", X " + x + ", size " + size;
            check.equal(text + ": result", b & ~mask | b + sign * (a + x) & mask, rig.get(0));
            check.equal(text + ": flags", sumFlags(b, a, x, sign, size) & ~Rig.Z, rig.flags() & ~Rig.Z);
        }
    }

    private static void chainOfZero(Check check) {
        int[][] rows = { // group, b, a, X before
            {4, 0, 0, 0}, {4, 0xFF, 0, Rig.X}, {4, 0x80, 0x80, 0}, {5, 0, 0, 0}, {5, 1, 0, Rig.X}, {5, 0x80, 0x80, 0},
        };
        for (int[] row : rows) {
            for (int z : new int[] {0, Rig.Z}) {
                Rig rig = new Rig(Rig.op(row[0], 0, 1, 0, Rig.d(1))).with(0, row[1]).with(1, row[2]).flags(row[3] | z);
                rig.step();
                check.equal("the result is 0", 0, rig.get(0));
                check.equal("Z stays " + z, z, rig.flags() & Rig.Z);
            }
        }
        Rig one = new Rig(Rig.op(4, 0, 1, 0, Rig.d(1))).with(1, 1).flags(Rig.Z);
        one.step();
        check.equal("Z becomes 0 where it is not 0", 0, one.flags() & Rig.Z);
        for (int size = 0; size < 3; size++) {
            for (int z : new int[] {0, Rig.Z}) {
                Rig negated = new Rig(Rig.three(size, Rig.d(0))).flags(z);
                negated.step();
                check.equal("0 - 0 of size " + size, z, negated.flags());
            }
        }
    }

    /** Due is: result, then X and C. */
    private static int[] tens(boolean adds, int b, int a, int x) {
        int s = adds ? (a & 15) + (b & 15) + x : (b & 15) - (a & 15) - x;
        if (adds ? s > 9 : s < 0) {
            s += adds ? 6 : -6;
        }
        s += adds ? (a & 240) + (b & 240) : (b & 240) - (a & 240);
        boolean over = adds ? s > 159 : s < 0;
        if (over) {
            s += adds ? 96 : -96;
        }
        return new int[] {s & 255, over ? Rig.X | Rig.C : 0};
    }

    /** All bytes with all bytes; one machine serves for some of them, since it may be asked 512 times only. */
    private static void inTens(Check check, boolean adds, int x) {
        int word = Rig.op(adds ? 7 : 8, 0, 1, 0, Rig.d(1));
        for (int b = 0; b < 256; b++) {
            Rig rig = null;
            for (int a = 0; a < 256; a++) {
                if (a % 32 == 0) {
                    rig = new Rig(word);
                }
                rig.with(0, 0x7700 | b).with(1, a).with(Rig.STATUS, 0x2700 | x * Rig.X).with(Rig.PC, Rig.START).step();
                int[] due = tens(adds, b, a, x);
                String text = (adds ? "+ " : "- ") + b + ", " + a + ", X " + x;
                check.equal(text + ": result", 0x7700 | due[0], rig.get(0));
                check.equal(text + ": flags", due[1] | (due[0] > 127 ? Rig.N : 0), rig.flags());
            }
        }
    }

    private static void row(Check check, boolean adds, int b, int a, int before, int result, int flags) {
        Rig rig = new Rig(Rig.op(adds ? 7 : 8, 0, 1, 0, Rig.d(1))).with(0, b).with(1, a).flags(before);
        rig.step();
        String text = (adds ? "+ " : "- ") + Integer.toHexString(b) + ", " + Integer.toHexString(a);
        check.equal(text + ": result", result, rig.get(0));
        check.equal(text + ": flags", flags, rig.flags());
    }

    private static void addingInTens(Check check) {
        row(check, true, 0x04, 0x05, 0, 0x09, 0);
        row(check, true, 0x05, 0x05, 0, 0x10, 0);
        row(check, true, 0x04, 0x05, Rig.X, 0x10, 0);
        row(check, true, 0x50, 0x49, 0, 0x99, Rig.N);
        row(check, true, 0x50, 0x49, Rig.X, 0x00, Rig.X | Rig.C);
        row(check, true, 0x4F, 0x4A, 0, 0x9F, Rig.N);
        row(check, true, 0x99, 0x99, Rig.X, 0x99, Rig.X | Rig.C | Rig.N);
        row(check, true, 0xFF, 0xFF, Rig.X, 0x65, Rig.X | Rig.C);
        inTens(check, true, 0);
        inTens(check, true, 1);
    }

    private static void takingAwayInTens(Check check) {
        row(check, false, 0x05, 0x05, 0, 0x00, 0);
        row(check, false, 0x05, 0x05, Rig.X, 0x99, Rig.X | Rig.C | Rig.N);
        row(check, false, 0x10, 0x01, 0, 0x09, 0);
        row(check, false, 0x10, 0x10, 0, 0x00, 0);
        row(check, false, 0x10, 0x11, 0, 0x99, Rig.X | Rig.C | Rig.N);
        row(check, false, 0x00, 0x99, Rig.X, 0x00, Rig.X | Rig.C);
        row(check, false, 0x00, 0xFF, Rig.X, 0x9A, Rig.X | Rig.C | Rig.N);
        inTens(check, false, 0);
        inTens(check, false, 1);
    }

    private static void resultInTens(Check check) {
        for (int z : new int[] {0, Rig.Z}) {
            row(check, true, 0x99, 0x01, z, 0x00, Rig.X | Rig.C | z);
            row(check, true, 0x00, 0x00, z, 0x00, z);
            row(check, true, 0x00, 0x01, z, 0x01, 0);
            row(check, false, 0x33, 0x33, z, 0x00, z);
            row(check, false, 0x33, 0x32, z, 0x01, 0);
            row(check, true, 0x40, 0x40, z | Rig.V, 0x80, Rig.N);
            row(check, false, 0x90, 0x10, z | Rig.V, 0x80, Rig.N);
            row(check, true, 0x12345678, 0x11, z, 0x12345689, Rig.N);
        }
    }

    private static boolean holds(int k, int flags) {
        boolean n = (flags & Rig.N) != 0;
        boolean z = (flags & Rig.Z) != 0;
        boolean v = (flags & Rig.V) != 0;
        boolean c = (flags & Rig.C) != 0;
        boolean[] even = {true, !c && !z, !c, !z, !v, !n, n == v, n == v && !z};
        return even[k / 2] == (k % 2 == 0);
    }

    private static void conditions(Check check) {
        for (int k = 0; k < 16; k++) {
            for (int flags = 0; flags < 32; flags++) {
                Rig rig = new Rig(Rig.op(9, k / 2, k % 2, 3, Rig.d(0))).with(0, 0x1234).flags(flags);
                rig.step();
                check.equal("condition " + k + " with " + flags, holds(k, flags) ? 0x12FF : 0x1200, rig.get(0));
                check.equal("flags stay", flags, rig.flags());
            }
        }
    }
}
