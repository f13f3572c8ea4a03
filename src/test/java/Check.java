/** Counts and prints the answers that are not as due; end() leaves with exit code 1 if there was one. */
final class Check {

    private final String name;
    private int answers;
    private int wrong;

    Check(String name) {
        this.name = name;
    }

    void equal(String what, long due, long got) {
        answers++;
        if (due != got) {
            wrong++;
            System.out.println(name + ": " + what + ": due is " + due + ", answered " + got
                    + " (0x" + Long.toHexString(due) + ", 0x" + Long.toHexString(got) + ")");
        }
    }

    void that(String what, boolean holds) {
        equal(what, 1, holds ? 1 : 0);
    }

    /** The call must throw this very class and no other. */
    void throwing(String what, Class<? extends RuntimeException> due, Runnable call) {
        Class<?> got = null;
        try {
            call.run();
        } catch (RuntimeException e) {
            got = e.getClass();
        }
        answers++;
        if (got != due) {
            wrong++;
            System.out.println(name + ": " + what + ": due is " + due + ", thrown " + got);
        }
    }

    void end() {
        System.out.println(name + ": " + answers + " answers, " + wrong + " wrong");
        if (wrong != 0 || answers == 0) {
            System.exit(1);
        }
    }
}
