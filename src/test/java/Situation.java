/** States of a machine in which calls are refused: with something in everything that a call could change. */
enum Situation {

    NEW {
        @Override
        SupervisorMachine machine() {
            return new SupervisorMachine();
        }
    },

    /** Level 7 was taken and stays set; what follows reads the port, meets the fence and lowers the mask. */
    READY {
        @Override
        SupervisorMachine machine() {
            return filled().m;
        }
    },

    /** The user's state, traced, the trace returning to it. */
    USER {
        @Override
        SupervisorMachine machine() {
            Rig rig = filled();
            rig.m.level(0);
            return rig.with(Rig.OTHER, 0x760).with(Rig.STATUS, 0x8015).with(Rig.PC, NOTHINGS).m;
        }
    },

    /** STOPPED until the timer asks. */
    STOPPED {
        @Override
        SupervisorMachine machine() {
            Rig rig = filled().write(NOTHINGS, Rig.move(Rig.WORD, Rig.NUMBER, Rig.SHORT_PLACE), 6, 4098,
                    Rig.STOP, 0x2400).with(Rig.PC, NOTHINGS);
            rig.m.level(3);
            rig.m.run(2);
            return rig.m;
        }
    },

    /** HALTED with a timer that would still count. */
    HALTED {
        @Override
        SupervisorMachine machine() {
            Rig rig = filled().with(15, 0x751).with(Rig.PC, 0x351);
            rig.m.run(1);
            return rig.m;
        }
    };

    static final int FENCE = 0x700;
    private static final int NOTHINGS = 0x380;

    abstract SupervisorMachine machine();

    private static Rig filled() {
        Rig rig = new Rig(
                Rig.move(Rig.BYTE, Rig.NUMBER, Rig.SHORT_PLACE), 0x5A, 4096,
                Rig.move(Rig.LONG, Rig.NUMBER, Rig.SHORT_PLACE), 200, 0x0500, 4098)
                .with(15, 0x7F0).with(Rig.OTHER, 0x1234).flags(Rig.X | Rig.C);
        for (int what = 0; what < 15; what++) {
            rig.with(what, 0x01020304 * (what + 1));
        }
        rig.m.put(4 * 31 + 2, 0x300);
        rig.m.put(4 * 2 + 2, 0x340);
        rig.m.put(4 * 9 + 2, 0x360);
        rig.write(0x300, Rig.move(Rig.BYTE, Rig.SHORT_PLACE, Rig.d(3)), 4096,
                Rig.move(Rig.BYTE, Rig.d(3), Rig.SHORT_PLACE), FENCE - 1);
        rig.write(0x340, Rig.move(Rig.BYTE, Rig.d(3), Rig.SHORT_PLACE), FENCE, Rig.three(11, Rig.NUMBER), 0x2600);
        rig.write(0x360, 0x3733);
        for (int i = 0; i < 16; i++) {
            rig.write(NOTHINGS + 2 * i, Rig.NOTHING);
        }
        for (int i = 0; i < 5; i++) {
            rig.m.type(0x31 + i);
        }
        rig.m.fence(FENCE);
        rig.m.run(2);
        rig.m.level(7);
        rig.m.run(1);
        return rig;
    }
}
