/**
 * A machine of 16-bit instructions with a supervisor's and a user's state, exceptions, interrupts,
 * trace, and a bus with memory, a timer and a port.
 *
 * An access that is an error is remembered by the bus, which does nothing more until the error is
 * cleared. So an instruction may run on to its end with numbers that mean nothing: all registers
 * are taken back behind it, and nothing else has been touched.
 */
public final class SupervisorMachine {

    public static final int NONE = -1;

    private static final int BYTE = 0;
    private static final int WORD = 1;
    private static final int LONG = 2;

    private static final int ADDRESSES = 8;
    private static final int STACK = 15;
    private static final int OTHER = 16;
    private static final int PC = 17;
    private static final int STATUS = 18;
    private static final int REGISTERS = 19;

    private static final int T = 0x8000;
    private static final int S = 0x2000;
    private static final int MASK = 0x0700;
    private static final int X = 16;
    private static final int N = 8;
    private static final int Z = 4;
    private static final int V = 2;
    private static final int C = 1;
    private static final int FLAGS = X | N | Z | V | C;
    private static final int STATUS_BITS = T | S | MASK | FLAGS;
    private static final int STATUS_AT_RESET = S | MASK;

    private static final int BUS_ERROR = 2;
    private static final int ADDRESS_ERROR = 3;
    private static final int ILLEGAL = 4;
    private static final int DIVISION = 5;
    private static final int CHECK = 6;
    private static final int OVERFLOW = 7;
    private static final int PRIVILEGED = 8;
    private static final int TRACE = 9;
    private static final int TEN = 10;
    private static final int FIFTEEN = 11;
    private static final int INTERRUPT = 24;
    private static final int CALLS = 32;
    private static final int VECTORS = 48;

    private static final int MEMORY = 2048;
    private static final int MOST_STEPS = 50;

    private final Registers registers;
    private final Bus bus;
    private final Processor processor;

    public SupervisorMachine() {
        registers = new Registers();
        bus = new Bus(registers);
        processor = new Processor(registers, bus);
    }

    public void put(int at, int word) throws IndexOutOfBoundsException {
        if (!isPlaceOfWords(at, 1)) {
            throw new IndexOutOfBoundsException();
        }
        bus.store(at, word);
    }

    public void fill(int at, int n, long words) throws IllegalArgumentException, IndexOutOfBoundsException {
        if (n < 1 || n > 4) {
            throw new IllegalArgumentException();
        }
        if (!isPlaceOfWords(at, n)) {
            throw new IndexOutOfBoundsException();
        }
        for (int i = 0; i < n; i++) {
            bus.store(at + 2 * i, (int) (words >>> 16 * (n - 1 - i)));
        }
    }

    public void fence(int at) throws IndexOutOfBoundsException {
        if (at < 0 || at > MEMORY) {
            throw new IndexOutOfBoundsException();
        }
        bus.fenceAt = at;
    }

    public void reset() {
        processor.startAnew();
    }

    public int step() throws IllegalStateException {
        if (processor.halted) {
            throw new IllegalStateException();
        }
        return processor.advance();
    }

    public int run(int n) throws IllegalArgumentException {
        if (n < 0 || n > MOST_STEPS) {
            throw new IllegalArgumentException();
        }
        int done = 0;
        while (done < n && !processor.halted) {
            processor.advance();
            done++;
        }
        return done;
    }

    public void level(int level) throws IllegalArgumentException {
        if (level < 0 || level > 7) {
            throw new IllegalArgumentException();
        }
        processor.levelSet = level;
    }

    public boolean type(int b) {
        return bus.enqueue(b & 255);
    }

    public int said(int k) {
        return k >= 0 && k < bus.saidCount ? bus.said[k] : NONE;
    }

    public int get(int what) throws IndexOutOfBoundsException {
        if (what < 0 || what >= REGISTERS) {
            throw new IndexOutOfBoundsException();
        }
        return registers.values[what];
    }

    public void set(int what, int v) throws IndexOutOfBoundsException {
        if (what < 0 || what >= REGISTERS) {
            throw new IndexOutOfBoundsException();
        }
        if (what == STATUS) {
            registers.changeStatus(v);
        } else {
            registers.values[what] = v;
        }
    }

    public int memory(int at) {
        return at >= 0 && at < MEMORY ? bus.bytes[at] : NONE;
    }

    public int device(int what) throws IndexOutOfBoundsException {
        switch (what) {
            case 0: return bus.timer;
            case 1: return bus.timerLevel;
            case 2: return bus.asks ? 1 : 0;
            case 3: return bus.typedCount;
            case 4: return bus.saidCount;
            default: throw new IndexOutOfBoundsException();
        }
    }

    public int state() {
        if (processor.halted) {
            return 2;
        }
        return processor.stopped ? 1 : 0;
    }

    public int counted(int vector) {
        return vector >= 0 && vector < VECTORS ? processor.workedOff[vector] : 0;
    }

    private static boolean isPlaceOfWords(int at, int n) {
        return at >= 0 && at <= MEMORY - 2 * n && (at & 1) == 0;
    }

    private static int bytesOf(int size) {
        return 1 << size;
    }

    private static int bitsOf(int size) {
        return 8 << size;
    }

    private static int maskOf(int size) {
        return size == BYTE ? 0xFF : size == WORD ? 0xFFFF : -1;
    }

    private static int extended(int value, int size) {
        return size == BYTE ? (byte) value : size == WORD ? (short) value : value;
    }

    private static long withoutSign(int value, int size) {
        return value & (1L << (8 << size)) - 1;
    }

    /** The registers in the order of get(), so that one copy keeps them all. */
    private static final class Registers {

        final int[] values = new int[REGISTERS];
        private final int[] kept = new int[REGISTERS];

        Registers() {
            values[STATUS] = STATUS_AT_RESET;
        }

        boolean has(int bit) {
            return (values[STATUS] & bit) != 0;
        }

        void changeStatus(int word) {
            int next = word & STATUS_BITS;
            if (((values[STATUS] ^ next) & S) != 0) {
                int end = values[STACK];
                values[STACK] = values[OTHER];
                values[OTHER] = end;
            }
            values[STATUS] = next;
        }

        void changeFlags(int which, int bits) {
            values[STATUS] = values[STATUS] & ~which | bits & which;
        }

        void keep() {
            System.arraycopy(values, 0, kept, 0, REGISTERS);
        }

        void takeBack() {
            System.arraycopy(kept, 0, values, 0, REGISTERS);
        }

        boolean holds(int condition) {
            boolean same = has(N) == has(V);
            switch (condition) {
                case 0: return true;
                case 2: return !has(C | Z);
                case 3: return has(C | Z);
                case 4: return !has(C);
                case 5: return has(C);
                case 6: return !has(Z);
                case 7: return has(Z);
                case 8: return !has(V);
                case 9: return has(V);
                case 10: return !has(N);
                case 11: return has(N);
                case 12: return same;
                case 13: return !same;
                case 14: return same && !has(Z);
                case 15: return !same || has(Z);
                default: return false;
            }
        }
    }

    /** Memory and devices; it keeps the first access that is an error until that is cleared. */
    private static final class Bus {

        static final int READING = 1;
        static final int OF_INSTRUCTION = 2;
        private static final int WRITING = 0;
        private static final int ADDRESS_BITS = 0xFFFFFF;
        private static final int PORT = 4096;
        private static final int TYPED = 4097;
        private static final int TIMER_HIGH = 4098;
        private static final int TIMER_LOW = 4099;
        private static final int TIMER_LEVEL = 4100;
        private static final int TIMER_ASKS = 4101;
        private static final int BEHIND_DEVICES = 4104;
        private static final int MOST_TYPED = 16;
        private static final int MOST_SAID = 64;

        final int[] bytes = new int[MEMORY];
        private final int[] typed = new int[MOST_TYPED];
        final int[] said = new int[MOST_SAID];
        private int typedFirst;
        int typedCount;
        int saidCount;
        int fenceAt;
        int timer;
        int timerLevel;
        boolean asks;
        int error;
        int errorAddress;
        int errorWay;
        private final Registers registers;

        Bus(Registers registers) {
            this.registers = registers;
        }

        int read(int address, int size, int way) {
            int at = address & ADDRESS_BITS;
            int n = bytesOf(size);
            if (!allows(at, n, way)) {
                return 0;
            }
            int value = 0;
            for (int i = 0; i < n; i++) {
                value = value << 8 | readByte(at + i);
            }
            return value;
        }

        void write(int address, int size, int value) {
            int at = address & ADDRESS_BITS;
            int n = bytesOf(size);
            if (!allows(at, n, WRITING)) {
                return;
            }
            for (int i = 0; i < n; i++) {
                writeByte(at + i, value >>> 8 * (n - 1 - i) & 255);
            }
        }

        void store(int at, int word) {
            bytes[at] = word >>> 8 & 255;
            bytes[at + 1] = word & 255;
        }

        boolean enqueue(int b) {
            if (typedCount >= MOST_TYPED) {
                return false;
            }
            typed[(typedFirst + typedCount) % MOST_TYPED] = b;
            typedCount++;
            return true;
        }

        void clearError() {
            error = 0;
        }

        void quietTimer() {
            timer = 0;
            timerLevel = 0;
            asks = false;
        }

        void tick() {
            if (timer != 0) {
                timer--;
                asks = asks || timer == 0;
            }
        }

        // Memory and devices lie apart, so no access can have bytes of both.
        private boolean allows(int at, int n, int way) {
            if (error != 0) {
                return false;
            }
            int last = at + n - 1;
            int status = registers.values[STATUS];
            boolean isInMemory = last < MEMORY && (way != WRITING || at >= fenceAt);
            boolean isDevice = at >= PORT && last < BEHIND_DEVICES && (status & S) != 0;
            if (n > 1 && (at & 1) != 0) {
                error = ADDRESS_ERROR;
            } else if (!isInMemory && !isDevice) {
                error = BUS_ERROR;
            } else {
                return true;
            }
            errorAddress = at;
            errorWay = way;
            return false;
        }

        private int readByte(int at) {
            if (at < MEMORY) {
                return bytes[at];
            }
            switch (at) {
                case PORT:
                    if (typedCount == 0) {
                        return 0;
                    }
                    int first = typedFirst;
                    typedFirst = (first + 1) % MOST_TYPED;
                    typedCount--;
                    return typed[first];
                case TYPED: return typedCount;
                case TIMER_HIGH: return timer >>> 8;
                case TIMER_LOW: return timer & 255;
                case TIMER_LEVEL: return timerLevel;
                case TIMER_ASKS: return asks ? 1 : 0;
                default: return 0;
            }
        }

        private void writeByte(int at, int b) {
            if (at < MEMORY) {
                bytes[at] = b;
                return;
            }
            switch (at) {
                case PORT:
                    if (saidCount < MOST_SAID) {
                        said[saidCount] = b;
                        saidCount++;
                    }
                    break;
                case TIMER_HIGH: timer = timer & 255 | b << 8; break;
                case TIMER_LOW: timer = timer & 0xFF00 | b; break;
                case TIMER_LEVEL: timerLevel = b & 7; break;
                case TIMER_ASKS: asks = false; break;
                default: break;
            }
        }
    }

    /** The twelve ways to tell an operand, and the kinds of operands that instructions ask for. */
    private static final class Ways {

        static final int DATA_REGISTER = 0;
        static final int ADDRESS_REGISTER = 1;
        static final int THERE = 2;
        static final int BEHIND = 3;
        static final int BEFORE = 4;
        static final int FROM_ADDRESS = 5;
        static final int FROM_ADDRESS_INDEXED = 6;
        static final int SHORT_PLACE = 7;
        static final int LONG_PLACE = 8;
        static final int FROM_PC = 9;
        static final int FROM_PC_INDEXED = 10;
        static final int NUMBER = 11;

        /** The six bits of a number in the words of the instruction. */
        static final int NUMBER_BITS = 60;

        static int of(int operand) {
            int mode = operand >>> 3 & 7;
            return mode < 7 ? mode : SHORT_PLACE + (operand & 7);
        }

        static boolean isAny(int operand, int size) {
            int way = of(operand);
            return way <= NUMBER && !(way == ADDRESS_REGISTER && size == BYTE);
        }

        static boolean isData(int operand) {
            int way = of(operand);
            return way <= NUMBER && way != ADDRESS_REGISTER;
        }

        static boolean isControl(int operand) {
            int way = of(operand);
            return way == THERE || way > BEFORE && way < NUMBER;
        }

        static boolean isOpen(int operand) {
            return of(operand) <= LONG_PLACE;
        }

        static boolean isOpenData(int operand) {
            int way = of(operand);
            return way <= LONG_PLACE && way != ADDRESS_REGISTER;
        }

        static boolean isOpenMemory(int operand) {
            int way = of(operand);
            return way <= LONG_PLACE && way > ADDRESS_REGISTER;
        }

        static int before(int register) {
            return BEFORE << 3 | register;
        }

        static int behind(int register) {
            return BEHIND << 3 | register;
        }
    }

    /** The operand that was found latest; it also reads the words of instructions and keeps the stack. */
    private static final class Operand {

        private final int[] values;
        private final Bus bus;
        private int way;
        /** A register's number, an address, or the number itself, by the way. */
        int at;

        Operand(Registers registers, Bus bus) {
            this.values = registers.values;
            this.bus = bus;
        }

        int fetch(int size) {
            int number = 0;
            for (int left = size == LONG ? 2 : 1; left > 0; left--) {
                number = number << 16 | bus.read(values[PC], WORD, Bus.READING | Bus.OF_INSTRUCTION);
                values[PC] += 2;
            }
            return size == BYTE ? number & 255 : number;
        }

        void find(int operand, int size) {
            int register = operand & 7;
            int address = ADDRESSES + register;
            int place = values[PC];
            way = Ways.of(operand);
            switch (way) {
                case Ways.DATA_REGISTER: at = register; break;
                case Ways.ADDRESS_REGISTER: at = address; break;
                case Ways.BEHIND:
                    at = values[address];
                    values[address] += stride(register, size);
                    break;
                case Ways.BEFORE:
                    values[address] -= stride(register, size);
                    at = values[address];
                    break;
                case Ways.FROM_ADDRESS: at = values[address] + extended(fetch(WORD), WORD); break;
                case Ways.FROM_ADDRESS_INDEXED: at = values[address] + index(fetch(WORD)); break;
                case Ways.SHORT_PLACE: at = extended(fetch(WORD), WORD); break;
                case Ways.LONG_PLACE: at = fetch(LONG); break;
                case Ways.FROM_PC: at = place + extended(fetch(WORD), WORD); break;
                case Ways.FROM_PC_INDEXED: at = place + index(fetch(WORD)); break;
                case Ways.NUMBER: at = fetch(size); break;
                default: at = values[address]; break;
            }
        }

        int read(int size) {
            if (way == Ways.NUMBER) {
                return at;
            }
            if (isRegister()) {
                return values[at & 15] & maskOf(size);
            }
            return bus.read(at, size, Bus.READING);
        }

        void write(int size, int value) {
            if (isRegister()) {
                int mask = maskOf(size);
                values[at & 15] = values[at & 15] & ~mask | value & mask;
            } else {
                bus.write(at, size, value);
            }
        }

        void push(int size, int value) {
            values[STACK] -= bytesOf(size);
            bus.write(values[STACK], size, value);
        }

        int pull(int size) {
            int value = bus.read(values[STACK], size, Bus.READING);
            values[STACK] += bytesOf(size);
            return value;
        }

        private boolean isRegister() {
            return way <= Ways.ADDRESS_REGISTER;
        }

        private int index(int word) {
            int register = values[word >>> 12 & 15];
            boolean whole = (word & 0x800) != 0;
            return extended(word, BYTE) + (whole ? register : extended(register, WORD));
        }

        // The stack's end stays even, so a byte takes two of its places.
        private static int stride(int register, int size) {
            return size == BYTE && register == 7 ? 2 : bytesOf(size);
        }
    }

    /** Results and the flags that they leave. */
    private static final class Arithmetic {

        private final Registers registers;

        Arithmetic(Registers registers) {
            this.registers = registers;
        }

        int tested(int value, int size) {
            registers.changeFlags(N | Z | V | C, signs(value, size));
            return value;
        }

        /** What a pair's operation makes of b, which is changed or compared, and a, the source. */
        int combined(Op op, int b, int a, int size) {
            switch (op) {
                case ADD: return total(false, b, a, 1, size, FLAGS);
                case ADD_CHAIN: return total(true, b, a, 1, size, FLAGS);
                case ADD_TENS: return addedInTens(b, a);
                case SUBTRACT: return total(false, b, a, -1, size, FLAGS);
                case SUBTRACT_CHAIN: return total(true, b, a, -1, size, FLAGS);
                case SUBTRACT_TENS: return subtractedInTens(b, a);
                case COMPARE: return total(false, b, a, -1, size, FLAGS & ~X);
                case AND: return tested(b & a, size);
                case OR: return tested(b | a, size);
                case EXCLUSIVE: return tested(b ^ a, size);
                default: return tested(a, size);
            }
        }

        int shifted(int value, int size, int kind, boolean left, int n) {
            int top = bitsOf(size) - 1;
            int x = x();
            int carry = kind == 2 ? x : 0;
            int result = value;
            int changes = 0;
            for (int i = 0; i < n; i++) {
                int highest = result >>> top & 1;
                int out = left ? highest : result & 1;
                int in = kind == 2 ? x : kind == 3 ? out : kind == 0 && !left ? highest : 0;
                int next = left ? (result << 1 | in) & maskOf(size) : result >>> 1 | in << top;
                changes |= result ^ next;
                result = next;
                carry = out;
                x = kind == 3 ? x : out;
            }
            boolean over = kind == 0 && left && (changes >>> top & 1) != 0;
            registers.changeFlags(FLAGS, signs(result, size) | carry * C | x * X | (over ? V : 0));
            return result;
        }

        private static int signs(int value, int size) {
            int whole = extended(value, size);
            return (whole < 0 ? N : 0) | (whole == 0 ? Z : 0);
        }

        private int x() {
            return registers.has(X) ? 1 : 0;
        }

        // Carry and overflow show where the number without bounds is not what the size can hold.
        private int total(boolean inChain, int b, int a, int sign, int size, int which) {
            int x = inChain ? x() : 0;
            long plain = withoutSign(b, size) + sign * (withoutSign(a, size) + x);
            long signed = extended(b, size) + sign * ((long) extended(a, size) + x);
            int result = (int) plain & maskOf(size);
            boolean carry = plain != withoutSign(result, size);
            boolean over = signed != extended(result, size);
            int kept = inChain && result == 0 ? Z : 0;
            registers.changeFlags(which & ~kept, signs(result, size) | (carry ? X | C : 0) | (over ? V : 0));
            return result;
        }

        private int addedInTens(int b, int a) {
            int s = (a & 15) + (b & 15) + x();
            s += s > 9 ? 6 : 0;
            s += (a & 240) + (b & 240);
            boolean carry = s > 159;
            return settledInTens(carry ? s + 96 : s, carry);
        }

        private int subtractedInTens(int b, int a) {
            int s = (b & 15) - (a & 15) - x();
            s -= s < 0 ? 6 : 0;
            s += (b & 240) - (a & 240);
            boolean borrow = s < 0;
            return settledInTens(borrow ? s - 96 : s, borrow);
        }

        private int settledInTens(int s, boolean carry) {
            int result = s & 255;
            int which = result == 0 ? FLAGS & ~Z : FLAGS;
            registers.changeFlags(which, ((result & 128) != 0 ? N : 0) | (carry ? X | C : 0));
            return result;
        }
    }

    /** What instructions do; those of the first row change a target by a source. */
    private enum Op {
        MOVE, ADD, ADD_CHAIN, ADD_TENS, SUBTRACT, SUBTRACT_CHAIN, SUBTRACT_TENS, COMPARE, AND, OR, EXCLUSIVE,
        MOVE_ADDRESS, ADD_ADDRESS, SUBTRACT_ADDRESS, COMPARE_ADDRESS, EXCHANGE, MULTIPLY, DIVIDE, CHECK_BOUNDS,
        ADD_QUICK, SUBTRACT_QUICK, MOVE_QUICK, BITS_BY_REGISTER, BITS_BY_NUMBER, MOVE_BYTES,
        NUMBER_TO_FLAGS, NUMBER_TO_STATUS(true), SHIFT_REGISTER, SHIFT_MEMORY,
        NEGATE, NEGATE_CHAIN, NEGATE_TENS, CLEAR, TURN, TEST, TEST_AND_SET, SET_BY_CONDITION,
        STORE_STATUS, LOAD_FLAGS, LOAD_STATUS(true), SWAP, EXTEND, STORE_MANY, LOAD_MANY,
        LOAD_ADDRESS, PUSH_ADDRESS, CALL, JUMP, BRANCH, COUNT_DOWN,
        RETURN, RETURN_WITH_FLAGS, RETURN_FROM_EXCEPTION(true),
        CALL_SUPERVISOR, CALL_IF_OVERFLOW, LINK, UNLINK, STORE_OTHER(true), LOAD_OTHER(true),
        QUIET_TIMER(true), NOTHING, STOP(true),
        NOT_THERE_TEN, NOT_THERE_FIFTEEN, WITHOUT_PRIVILEGE, UNTOLD;

        final boolean isPrivileged;

        Op() {
            isPrivileged = false;
        }

        Op(boolean isPrivileged) {
            this.isPrivileged = isPrivileged;
        }
    }

    /** What the first word of an instruction tells; the fields hold what goes with the operation. */
    private static final class Decoder {

        int word;
        int size;
        int source;
        int target;

        Op decode(int first) {
            word = first;
            switch (word >>> 12) {
                case 0: case 1: case 2: return moving();
                case 3: return ofGroupThree();
                case 4: return summing(Op.ADD, Op.ADD_CHAIN, Op.ADD_ADDRESS);
                case 5: return summing(Op.SUBTRACT, Op.SUBTRACT_CHAIN, Op.SUBTRACT_ADDRESS);
                case 6: return comparing();
                case 7: return joining(Op.AND, Op.MULTIPLY, Op.ADD_TENS);
                case 8: return joining(Op.OR, Op.DIVIDE, Op.SUBTRACT_TENS);
                case 9: return quick();
                case 10: return Op.NOT_THERE_TEN;
                case 11: return Op.BRANCH;
                case 12: return bit8() == 1 ? byRegister() : byNumber();
                case 13: return shifting();
                case 14: return ofGroupFourteen();
                default: return Op.NOT_THERE_FIFTEEN;
            }
        }

        int upperRegister() {
            return word >>> 9 & 7;
        }

        int lowerRegister() {
            return word & 7;
        }

        int bit8() {
            return word >>> 8 & 1;
        }

        int z() {
            return word >>> 6 & 3;
        }

        int condition() {
            return word >>> 8 & 15;
        }

        private int operand() {
            return word & 63;
        }

        private int mode() {
            return word >>> 3 & 7;
        }

        private Op pair(Op op, int from, int to, int ofSize, boolean isTold) {
            source = from;
            target = to;
            size = ofSize;
            return isTold ? op : Op.UNTOLD;
        }

        private Op single(Op op, int ofSize, boolean isTold) {
            return pair(op, operand(), operand(), ofSize, isTold);
        }

        private Op moving() {
            int to = word >>> 6 & 63;
            int ofSize = word >>> 12;
            boolean isTold = Ways.isAny(operand(), ofSize) && Ways.isAny(to, ofSize) && Ways.isOpen(to);
            return pair(isAddressRegister(to) ? Op.MOVE_ADDRESS : Op.MOVE, operand(), to, ofSize, isTold);
        }

        private static boolean isAddressRegister(int operand) {
            return Ways.of(operand) == Ways.ADDRESS_REGISTER;
        }

        private Op withAddress(Op op) {
            int ofSize = bit8() == 0 ? WORD : LONG;
            return pair(op, operand(), ADDRESSES + upperRegister(), ofSize, Ways.isAny(operand(), ofSize));
        }

        private Op summing(Op op, Op chain, Op address) {
            int r = upperRegister();
            if (z() == 3) {
                return withAddress(address);
            }
            if (bit8() == 0) {
                return pair(op, operand(), r, z(), Ways.isAny(operand(), z()));
            }
            switch (mode()) {
                case 0: return pair(chain, lowerRegister(), r, z(), true);
                case 1: return pair(chain, Ways.before(lowerRegister()), Ways.before(r), z(), true);
                default: return pair(op, r, operand(), z(), Ways.isOpenMemory(operand()));
            }
        }

        private Op comparing() {
            int r = upperRegister();
            if (z() == 3) {
                return withAddress(Op.COMPARE_ADDRESS);
            }
            if (bit8() == 0) {
                return pair(Op.COMPARE, operand(), r, z(), Ways.isAny(operand(), z()));
            }
            if (mode() == 1) {
                return pair(Op.COMPARE, Ways.behind(lowerRegister()), Ways.behind(r), z(), true);
            }
            return pair(Op.EXCLUSIVE, r, operand(), z(), Ways.isOpenData(operand()));
        }

        private Op joining(Op op, Op product, Op tens) {
            int r = upperRegister();
            if (z() == 3) {
                return pair(product, operand(), r, WORD, Ways.isData(operand()));
            }
            if (bit8() == 0) {
                return pair(op, operand(), r, z(), Ways.isData(operand()));
            }
            if (mode() > 1) {
                return pair(op, r, operand(), z(), Ways.isOpenMemory(operand()));
            }
            if (z() == 0 && mode() == 0) {
                return pair(tens, lowerRegister(), r, BYTE, true);
            }
            if (z() == 0) {
                return pair(tens, Ways.before(lowerRegister()), Ways.before(r), BYTE, true);
            }
            return op == Op.AND ? exchanging() : Op.UNTOLD;
        }

        // The operands of registers are their numbers among the sixteen, too.
        private Op exchanging() {
            int to = z() == 1 && mode() == 1 ? ADDRESSES + upperRegister() : upperRegister();
            return pair(Op.EXCHANGE, operand(), to, LONG, z() == 1 || mode() == 1);
        }

        private Op quick() {
            if (z() == 3) {
                return mode() == 1
                        ? Op.COUNT_DOWN : single(Op.SET_BY_CONDITION, BYTE, Ways.isOpenData(operand()));
            }
            boolean isTold = Ways.isAny(operand(), z()) && Ways.isOpen(operand());
            return single(bit8() == 0 ? Op.ADD_QUICK : Op.SUBTRACT_QUICK, z(), isTold);
        }

        private Op byRegister() {
            if (mode() == 1) {
                return Op.MOVE_BYTES;
            }
            return bits(Op.BITS_BY_REGISTER, Ways.isData(operand()));
        }

        private Op bits(Op op, boolean isReadable) {
            boolean isTold = z() == 0 ? isReadable : Ways.isOpenData(operand());
            return single(op, Ways.of(operand()) == Ways.DATA_REGISTER ? LONG : BYTE, isTold);
        }

        private Op byNumber() {
            switch (upperRegister()) {
                case 0: return withNumber(Op.OR);
                case 1: return withNumber(Op.AND);
                case 2: return withNumber(Op.SUBTRACT);
                case 3: return withNumber(Op.ADD);
                case 4: return bits(Op.BITS_BY_NUMBER, Ways.isData(operand()) && operand() != Ways.NUMBER_BITS);
                case 5: return withNumber(Op.EXCLUSIVE);
                case 6: return withNumber(Op.COMPARE);
                default: return Op.UNTOLD;
            }
        }

        private Op withNumber(Op op) {
            boolean joins = op == Op.OR || op == Op.AND || op == Op.EXCLUSIVE;
            if (joins && operand() == Ways.NUMBER_BITS && z() < LONG) {
                return z() == BYTE ? Op.NUMBER_TO_FLAGS : Op.NUMBER_TO_STATUS;
            }
            return pair(op, Ways.NUMBER_BITS, operand(), z(), z() < 3 && Ways.isOpenData(operand()));
        }

        private Op shifting() {
            if (z() < 3) {
                return pair(Op.SHIFT_REGISTER, upperRegister(), lowerRegister(), z(), true);
            }
            return single(Op.SHIFT_MEMORY, WORD, upperRegister() < 4 && Ways.isOpenMemory(operand()));
        }

        private Op ofGroupFourteen() {
            if (bit8() == 0) {
                return Op.MOVE_QUICK;
            }
            switch (z()) {
                case 0: return single(Op.LOAD_ADDRESS, LONG, Ways.isControl(operand()));
                case 1: return single(Op.CHECK_BOUNDS, WORD, Ways.isData(operand()));
                default: return Op.UNTOLD;
            }
        }

        private Op ofGroupThree() {
            int code = word >>> 6 & 63;
            boolean isChanged = Ways.isOpenData(operand());
            switch (code) {
                case 0: case 1: case 2: return single(Op.NEGATE_CHAIN, code, isChanged);
                case 3: return single(Op.STORE_STATUS, WORD, isChanged);
                case 4: case 5: case 6: return single(Op.CLEAR, code - 4, isChanged);
                case 7: return single(Op.LOAD_FLAGS, WORD, Ways.isData(operand()));
                case 8: case 9: case 10: return single(Op.NEGATE, code - 8, isChanged);
                case 11: return single(Op.LOAD_STATUS, WORD, Ways.isData(operand()));
                case 12: case 13: case 14: return single(Op.TURN, code - 12, isChanged);
                case 15: return single(Op.NEGATE_TENS, BYTE, isChanged);
                case 16: case 17: case 18: return single(Op.TEST, code - 16, isChanged);
                case 19: return single(Op.TEST_AND_SET, BYTE, isChanged);
                case 20: return mode() == 0
                        ? single(Op.SWAP, LONG, true) : single(Op.PUSH_ADDRESS, LONG, Ways.isControl(operand()));
                case 21: case 22: return mode() == 0
                        ? single(Op.EXTEND, code - 20, true) : single(Op.STORE_MANY, code - 20, isRowToStore());
                case 24: case 25: return single(Op.LOAD_MANY, code - 23, isRowToLoad());
                case 26: return single(Op.CALL, LONG, Ways.isControl(operand()));
                case 27: return single(Op.JUMP, LONG, Ways.isControl(operand()));
                case 28: return withoutOperands();
                default: return Op.UNTOLD;
            }
        }

        private boolean isRowToStore() {
            return mode() == Ways.BEFORE || Ways.isOpen(operand()) && Ways.isControl(operand());
        }

        private boolean isRowToLoad() {
            return mode() == Ways.BEHIND || Ways.isControl(operand());
        }

        private Op withoutOperands() {
            switch (mode()) {
                case 0: case 1: return Op.CALL_SUPERVISOR;
                case 2: return Op.LINK;
                case 3: return Op.UNLINK;
                case 4: return Op.STORE_OTHER;
                case 5: return Op.LOAD_OTHER;
                case 6: return ofLastEight();
                default: return Op.UNTOLD;
            }
        }

        private Op ofLastEight() {
            switch (lowerRegister()) {
                case 0: return Op.QUIET_TIMER;
                case 1: return Op.NOTHING;
                case 2: return Op.STOP;
                case 3: return Op.RETURN_FROM_EXCEPTION;
                case 5: return Op.RETURN;
                case 6: return Op.CALL_IF_OVERFLOW;
                case 7: return Op.RETURN_WITH_FLAGS;
                default: return Op.UNTOLD;
            }
        }
    }

    /** Does what was decoded; an exception that comes of it is left in raised. */
    private static final class Instructions {

        private final Registers registers;
        private final int[] values;
        private final Bus bus;
        private final Operand operand;
        private final Decoder decoder;
        private final Arithmetic arithmetic;
        int raised;
        boolean stops;

        Instructions(Registers registers, Bus bus, Operand operand, Decoder decoder) {
            this.registers = registers;
            this.values = registers.values;
            this.bus = bus;
            this.operand = operand;
            this.decoder = decoder;
            this.arithmetic = new Arithmetic(registers);
        }

        void perform(Op op) {
            raised = 0;
            stops = false;
            switch (op) {
                case MOVE: overwrite(arithmetic.tested(readSource(), decoder.size)); break;
                case ADD: case ADD_CHAIN: case ADD_TENS: case AND: case OR: case EXCLUSIVE:
                case SUBTRACT: case SUBTRACT_CHAIN: case SUBTRACT_TENS: change(op, readSource()); break;
                case COMPARE: compare(readSource()); break;
                case MOVE_ADDRESS: case ADD_ADDRESS: case SUBTRACT_ADDRESS: changeAddress(op, readSource()); break;
                case COMPARE_ADDRESS: compareAddress(readSource()); break;
                case MULTIPLY: multiply(readSource()); break;
                case DIVIDE: divide(readSource()); break;
                case CHECK_BOUNDS: checkBounds(extended(readSource(), WORD)); break;
                case ADD_QUICK: changeQuick(Op.ADD, quickNumber()); break;
                case SUBTRACT_QUICK: changeQuick(Op.SUBTRACT, quickNumber()); break;
                case BITS_BY_REGISTER: changeBit(values[decoder.upperRegister()]); break;
                case BITS_BY_NUMBER: changeBit(operand.fetch(WORD)); break;
                case SHIFT_REGISTER: shiftRegister(); break;
                case SHIFT_MEMORY: shiftMemory(); break;
                case NEGATE: negate(Op.SUBTRACT); break;
                case NEGATE_CHAIN: negate(Op.SUBTRACT_CHAIN); break;
                case NEGATE_TENS: negate(Op.SUBTRACT_TENS); break;
                case CLEAR: overwrite(arithmetic.tested(0, decoder.size)); break;
                case TURN: turn(); break;
                case EXTEND: extend(); break;
                case TEST: arithmetic.tested(readSource(), decoder.size); break;
                case TEST_AND_SET: testAndSet(); break;
                case SET_BY_CONDITION: overwrite(registers.holds(decoder.condition()) ? 255 : 0); break;
                case STORE_STATUS: overwrite(values[STATUS]); break;
                case LOAD_FLAGS: registers.changeFlags(FLAGS, readSource()); break;
                case LOAD_STATUS: registers.changeStatus(readSource()); break;
                case STORE_MANY: storeMany(); break;
                case LOAD_MANY: loadMany(); break;
                case LOAD_ADDRESS: values[ADDRESSES + decoder.upperRegister()] = address(); break;
                case PUSH_ADDRESS: operand.push(LONG, address()); break;
                case CALL: call(address()); break;
                case JUMP: values[PC] = address(); break;
                case BRANCH: branch(); break;
                case COUNT_DOWN: countDown(); break;
                case MOVE_BYTES: moveBytes(); break;
                default: performRest(op); break;
            }
        }

        private void performRest(Op op) {
            switch (op) {
                case EXCHANGE: exchange(); break;
                case MOVE_QUICK: moveQuick(); break;
                case NUMBER_TO_FLAGS: registers.changeFlags(FLAGS, statusJoined()); break;
                case NUMBER_TO_STATUS: registers.changeStatus(statusJoined()); break;
                case SWAP: swap(); break;
                case RETURN: values[PC] = operand.pull(LONG); break;
                case RETURN_WITH_FLAGS: returnWithFlags(); break;
                case RETURN_FROM_EXCEPTION: returnFromException(); break;
                case CALL_SUPERVISOR: raised = CALLS + (decoder.word & 15); break;
                case CALL_IF_OVERFLOW: raised = registers.has(V) ? OVERFLOW : 0; break;
                case LINK: link(); break;
                case UNLINK: unlink(); break;
                case STORE_OTHER: values[OTHER] = values[ADDRESSES + decoder.lowerRegister()]; break;
                case LOAD_OTHER: values[ADDRESSES + decoder.lowerRegister()] = values[OTHER]; break;
                case QUIET_TIMER: bus.quietTimer(); break;
                case STOP: stop(); break;
                case NOT_THERE_TEN: raised = TEN; break;
                case NOT_THERE_FIFTEEN: raised = FIFTEEN; break;
                case WITHOUT_PRIVILEGE: raised = PRIVILEGED; break;
                case UNTOLD: raised = ILLEGAL; break;
                default: break;
            }
        }

        private int readSource() {
            operand.find(decoder.source, decoder.size);
            return operand.read(decoder.size);
        }

        private int address() {
            operand.find(decoder.source, LONG);
            return operand.at;
        }

        private void overwrite(int value) {
            operand.find(decoder.target, decoder.size);
            operand.write(decoder.size, value);
        }

        private void change(Op op, int a) {
            int size = decoder.size;
            operand.find(decoder.target, size);
            operand.write(size, arithmetic.combined(op, operand.read(size), a, size));
        }

        private void compare(int a) {
            operand.find(decoder.target, decoder.size);
            arithmetic.combined(Op.COMPARE, operand.read(decoder.size), a, decoder.size);
        }

        private void changeAddress(Op op, int source) {
            int a = extended(source, decoder.size);
            int register = ADDRESSES + (decoder.target & 7);
            int b = values[register];
            values[register] = op == Op.ADD_ADDRESS ? b + a : op == Op.SUBTRACT_ADDRESS ? b - a : a;
        }

        private void compareAddress(int source) {
            int b = values[ADDRESSES + (decoder.target & 7)];
            arithmetic.combined(Op.COMPARE, b, extended(source, decoder.size), LONG);
        }

        private void multiply(int a) {
            int register = decoder.upperRegister();
            int b = values[register] & 0xFFFF;
            int product = decoder.bit8() == 0 ? b * a : extended(b, WORD) * extended(a, WORD);
            values[register] = arithmetic.tested(product, LONG);
        }

        private void divide(int a) {
            if (a == 0) {
                raised = DIVISION;
                return;
            }
            boolean signed = decoder.bit8() == 1;
            int register = decoder.upperRegister();
            long b = signed ? values[register] : withoutSign(values[register], LONG);
            long divisor = signed ? extended(a, WORD) : a;
            long quotient = b / divisor;
            long fitting = signed ? extended((int) quotient, WORD) : withoutSign((int) quotient, WORD);
            if (quotient != fitting) {
                registers.changeFlags(V | C, V);
                return;
            }
            int low = (int) quotient & 0xFFFF;
            values[register] = (int) (b % divisor) << 16 | low;
            arithmetic.tested(low, WORD);
        }

        private void checkBounds(int bound) {
            int x = extended(values[decoder.upperRegister()], WORD);
            if (x < 0 || x > bound) {
                registers.changeFlags(N, x < 0 ? N : 0);
                raised = CHECK;
            }
        }

        private int quickNumber() {
            int r = decoder.upperRegister();
            return r == 0 ? 8 : r;
        }

        private void changeQuick(Op op, int number) {
            int size = decoder.size;
            operand.find(decoder.target, size);
            if (Ways.of(decoder.target) == Ways.ADDRESS_REGISTER) {
                values[operand.at & 15] += op == Op.ADD ? number : -number;
            } else {
                operand.write(size, arithmetic.combined(op, operand.read(size), number, size));
            }
        }

        private void changeBit(int number) {
            int size = decoder.size;
            int bit = 1 << (number & bitsOf(size) - 1);
            operand.find(decoder.target, size);
            int value = operand.read(size);
            registers.changeFlags(Z, (value & bit) == 0 ? Z : 0);
            switch (decoder.z()) {
                case 1: operand.write(size, value ^ bit); break;
                case 2: operand.write(size, value & ~bit); break;
                case 3: operand.write(size, value | bit); break;
                default: break;
            }
        }

        private void shiftMemory() {
            operand.find(decoder.target, WORD);
            int value = operand.read(WORD);
            operand.write(WORD, arithmetic.shifted(value, WORD, decoder.upperRegister(), decoder.bit8() == 1, 1));
        }

        private void shiftRegister() {
            int size = decoder.size;
            boolean isNumber = (decoder.word & 32) == 0;
            int n = isNumber ? quickNumber() : values[decoder.upperRegister()] & 63;
            int kind = decoder.word >>> 3 & 3;
            operand.find(decoder.target, size);
            operand.write(size, arithmetic.shifted(operand.read(size), size, kind, decoder.bit8() == 1, n));
        }

        private void negate(Op op) {
            int size = decoder.size;
            operand.find(decoder.target, size);
            operand.write(size, arithmetic.combined(op, 0, operand.read(size), size));
        }

        private void turn() {
            operand.find(decoder.target, decoder.size);
            operand.write(decoder.size, arithmetic.tested(~operand.read(decoder.size), decoder.size));
        }

        private void testAndSet() {
            operand.find(decoder.target, BYTE);
            operand.write(BYTE, arithmetic.tested(operand.read(BYTE), BYTE) | 128);
        }

        private void storeMany() {
            int list = operand.fetch(WORD);
            if (Ways.of(decoder.target) == Ways.BEFORE) {
                storeManyBefore(list);
                return;
            }
            operand.find(decoder.target, decoder.size);
            int at = operand.at;
            for (int k = 0; k < 16; k++) {
                if ((list >>> k & 1) != 0) {
                    bus.write(at, decoder.size, values[k]);
                    at += bytesOf(decoder.size);
                }
            }
        }

        // The register that tells the place may be in the list: it changes last.
        private void storeManyBefore(int list) {
            int register = ADDRESSES + (decoder.target & 7);
            int at = values[register];
            for (int k = 0; k < 16; k++) {
                if ((list >>> k & 1) != 0) {
                    at -= bytesOf(decoder.size);
                    bus.write(at, decoder.size, values[15 - k]);
                }
            }
            values[register] = at;
        }

        private void loadMany() {
            int list = operand.fetch(WORD);
            operand.find(decoder.source, decoder.size);
            int at = operand.at;
            for (int k = 0; k < 16; k++) {
                if ((list >>> k & 1) != 0) {
                    values[k] = extended(bus.read(at, decoder.size, Bus.READING), decoder.size);
                    at += bytesOf(decoder.size);
                }
            }
            if (Ways.of(decoder.source) == Ways.BEHIND) {
                values[ADDRESSES + (decoder.source & 7)] = at;
            }
        }

        private void call(int address) {
            operand.push(LONG, values[PC]);
            values[PC] = address;
        }

        private void exchange() {
            int from = decoder.source & 15;
            int to = decoder.target & 15;
            int value = values[from];
            values[from] = values[to];
            values[to] = value;
        }

        private void moveQuick() {
            values[decoder.upperRegister()] = arithmetic.tested(extended(decoder.word, BYTE), LONG);
        }

        private void moveBytes() {
            int at = values[ADDRESSES + decoder.lowerRegister()] + extended(operand.fetch(WORD), WORD);
            int size = decoder.z() % 2 == 0 ? WORD : LONG;
            if (decoder.z() < 2) {
                loadBytes(at, size);
            } else {
                storeBytes(at, size);
            }
        }

        private void loadBytes(int at, int size) {
            int value = 0;
            for (int i = 0; i < bytesOf(size); i++) {
                value = value << 8 | bus.read(at + 2 * i, BYTE, Bus.READING);
            }
            int register = decoder.upperRegister();
            values[register] = values[register] & ~maskOf(size) | value;
        }

        private void storeBytes(int at, int size) {
            int value = values[decoder.upperRegister()];
            int last = bytesOf(size) - 1;
            for (int i = 0; i <= last; i++) {
                bus.write(at + 2 * i, BYTE, value >>> 8 * (last - i));
            }
        }

        private int statusJoined() {
            int number = operand.fetch(WORD);
            switch (decoder.upperRegister()) {
                case 0: return values[STATUS] | number;
                case 1: return values[STATUS] & number;
                default: return values[STATUS] ^ number;
            }
        }

        private void swap() {
            int r = decoder.lowerRegister();
            values[r] = arithmetic.tested(values[r] << 16 | values[r] >>> 16, LONG);
        }

        private void extend() {
            int size = decoder.size;
            operand.find(decoder.target, size);
            operand.write(size, arithmetic.tested(extended(operand.read(size - 1), size - 1), size));
        }

        private void branch() {
            int place = values[PC];
            int way = extended(decoder.word, BYTE);
            if (way == 0) {
                way = extended(operand.fetch(WORD), WORD);
            }
            if (decoder.condition() == 1) {
                call(place + way);
            } else if (registers.holds(decoder.condition())) {
                values[PC] = place + way;
            }
        }

        private void countDown() {
            int place = values[PC];
            int way = extended(operand.fetch(WORD), WORD);
            if (registers.holds(decoder.condition())) {
                return;
            }
            int r = decoder.lowerRegister();
            int left = values[r] - 1 & 0xFFFF;
            values[r] = values[r] & 0xFFFF0000 | left;
            if (left != 0xFFFF) {
                values[PC] = place + way;
            }
        }

        private void returnWithFlags() {
            int word = operand.pull(WORD);
            values[PC] = operand.pull(LONG);
            registers.changeFlags(FLAGS, word);
        }

        // Both are pulled before the stack can change with the state.
        private void returnFromException() {
            int word = operand.pull(WORD);
            int place = operand.pull(LONG);
            registers.changeStatus(word);
            values[PC] = place;
        }

        private void link() {
            int room = extended(operand.fetch(WORD), WORD);
            int register = ADDRESSES + decoder.lowerRegister();
            operand.push(LONG, values[register]);
            values[register] = values[STACK];
            values[STACK] += room;
        }

        private void unlink() {
            int register = ADDRESSES + decoder.lowerRegister();
            values[STACK] = values[register];
            values[register] = operand.pull(LONG);
        }

        private void stop() {
            registers.changeStatus(operand.fetch(WORD));
            stops = true;
        }
    }

    /** Steps, and the exceptions that come in them. */
    private static final class Processor {

        private static final int SEVEN = 7;

        private final Registers registers;
        private final int[] values;
        private final Bus bus;
        private final Operand operand;
        private final Decoder decoder;
        private final Instructions instructions;
        final int[] workedOff = new int[VECTORS];
        boolean halted = true;
        boolean stopped;
        int levelSet;
        private int levelBefore;
        private int firstWord;
        private boolean traced;

        Processor(Registers registers, Bus bus) {
            this.registers = registers;
            this.values = registers.values;
            this.bus = bus;
            this.operand = new Operand(registers, bus);
            this.decoder = new Decoder();
            this.instructions = new Instructions(registers, bus, operand, decoder);
        }

        void startAnew() {
            registers.changeStatus(STATUS_AT_RESET);
            bus.clearError();
            values[STACK] = bus.read(0, LONG, Bus.READING);
            values[PC] = bus.read(4, LONG, Bus.READING);
            bus.quietTimer();
            halted = false;
            stopped = false;
            levelBefore = 0;
            firstWord = 0;
        }

        int advance() {
            int level = Math.max(levelSet, bus.asks ? bus.timerLevel : 0);
            boolean isTaken = level > maskOfLevels() || level == SEVEN && levelBefore != SEVEN;
            levelBefore = level;
            int answer = NONE;
            if (isTaken) {
                answer = interrupt(level);
            } else if (!stopped) {
                instructions.perform(begin());
                answer = end();
            }
            bus.tick();
            return answer;
        }

        private int maskOfLevels() {
            return (values[STATUS] & MASK) >>> 8;
        }

        private int interrupt(int level) {
            stopped = false;
            workOff(INTERRUPT + level);
            return INTERRUPT + level;
        }

        private Op begin() {
            registers.keep();
            traced = registers.has(T);
            firstWord = operand.fetch(WORD);
            // A word that could not be read tells no instruction; the error is looked at in the end.
            if (bus.error != 0) {
                return Op.NOTHING;
            }
            Op op = decoder.decode(firstWord);
            return op.isPrivileged && !registers.has(S) ? Op.WITHOUT_PRIVILEGE : op;
        }

        private int end() {
            int vector = bus.error != 0 ? bus.error : instructions.raised;
            if (isOfInstruction(vector)) {
                registers.takeBack();
                workOff(vector);
                return vector;
            }
            if (vector != 0) {
                workOff(vector);
            }
            stopped = instructions.stops && !traced;
            if (traced && !halted) {
                workOff(TRACE);
                return vector == 0 ? TRACE : vector;
            }
            return vector;
        }

        // These push the place of the instruction, which has then done nothing to registers.
        private static boolean isOfInstruction(int vector) {
            return isOfGroupZero(vector) || vector == ILLEGAL || vector == PRIVILEGED
                    || vector == TEN || vector == FIFTEEN;
        }

        private static boolean isOfGroupZero(int vector) {
            return vector == BUS_ERROR || vector == ADDRESS_ERROR;
        }

        private void workOff(int vector) {
            if (enters(vector)) {
                return;
            }
            halted = isOfGroupZero(vector) || !enters(bus.error);
        }

        /** Whether the exception was worked off wholly; if not, the registers are as before it. */
        private boolean enters(int vector) {
            int before = values[STATUS];
            int mask = vector > INTERRUPT && vector < CALLS ? vector - INTERRUPT << 8 : before & MASK;
            int way = bus.errorWay | ((before & S) != 0 ? 4 : 0);
            int address = bus.errorAddress;
            registers.keep();
            bus.clearError();
            registers.changeStatus(S | mask | before & FLAGS);
            operand.push(LONG, values[PC]);
            operand.push(WORD, before);
            if (isOfGroupZero(vector)) {
                operand.push(WORD, firstWord);
                operand.push(LONG, address);
                operand.push(WORD, way);
            }
            values[PC] = bus.read(4 * vector, LONG, Bus.READING);
            if (bus.error != 0) {
                registers.takeBack();
                return false;
            }
            workedOff[vector]++;
            return true;
        }
    }
}
