/** A machine with a program at START, a stack, and a handler of its own for each vector; and words of instructions. */
final class Rig {

    static final int START = 0x100;
    static final int STACK = 0x600;
    static final int USER_STACK = 0x500;
    static final int DATA = 0x700;
    static final int OPEN_PLACE = 3000;

    static final int BYTE = 0;
    static final int WORD = 1;
    static final int LONG = 2;

    static final int X = 16;
    static final int N = 8;
    static final int Z = 4;
    static final int V = 2;
    static final int C = 1;

    static final int OTHER = 16;
    static final int PC = 17;
    static final int STATUS = 18;

    /** Operands without a register. */
    static final int SHORT_PLACE = 56;
    static final int LONG_PLACE = 57;
    static final int FROM_PC = 58;
    static final int FROM_PC_INDEXED = 59;
    static final int NUMBER = 60;

    static final int NOTHING = 0x3731;
    static final int STOP = 0x3732;

    final SupervisorMachine m = new SupervisorMachine();

    Rig(int... words) {
        m.fill(0, 4, (long) STACK << 32 | START);
        for (int v = 2; v < 48; v += 2) {
            m.fill(4 * v, 4, (long) handler(v) << 32 | handler(v + 1));
        }
        write(START, words);
        m.reset();
    }

    static int handler(int vector) {
        return 0x200 + 4 * vector;
    }

    static int d(int n) {
        return n;
    }

    static int a(int n) {
        return 8 + n;
    }

    static int at(int n) {
        return 16 + n;
    }

    static int behind(int n) {
        return 24 + n;
    }

    static int before(int n) {
        return 32 + n;
    }

    static int from(int n) {
        return 40 + n;
    }

    static int indexed(int n) {
        return 48 + n;
    }

    static int move(int size, int source, int target) {
        return size << 12 | target << 6 | source;
    }

    static int three(int code, int operand) {
        return 3 << 12 | code << 6 | operand;
    }

    static int op(int group, int upper, int bit8, int z, int operand) {
        return group << 12 | upper << 9 | bit8 << 8 | z << 6 | operand;
    }

    static int branch(int condition, int way) {
        return 11 << 12 | condition << 8 | way & 255;
    }

    Rig write(int place, int... words) {
        for (int i = 0; i < words.length; i++) {
            m.put(place + 2 * i, words[i]);
        }
        return this;
    }

    Rig with(int register, int value) {
        m.set(register, value);
        return this;
    }

    Rig flags(int flags) {
        return with(STATUS, m.get(STATUS) & ~31 | flags);
    }

    /** The user's state, with a stack of its own, the supervisor's being the other one then. */
    Rig user() {
        return with(OTHER, USER_STACK).with(STATUS, 0);
    }

    int step() {
        return m.step();
    }

    int get(int register) {
        return m.get(register);
    }

    int flags() {
        return m.get(STATUS) & 31;
    }

    int pc() {
        return m.get(PC);
    }

    int word(int place) {
        return m.memory(place) << 8 | m.memory(place + 1);
    }

    int longAt(int place) {
        return word(place) << 16 | word(place + 2);
    }
}
