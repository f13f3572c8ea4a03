import java.util.function.Consumer;

/**
 * Counts and prints the answers that are not as due; end() leaves with exit code 1 if there was one.
 * A test that belongs to one sentence of the document names the promise and the sentence.
 */
final class Check {

    private final String name;
    private String heading = "";
    private int sentences;
    private int answers;
    private int wrong;

    Check(String name) {
        this.name = name;
    }

    /** The promise, the sentence of the document word by word, and the test that fails if it is broken. */
    void sentence(String promise, String words, Consumer<Check> test) {
        heading = promise + " \"" + words + "\": ";
        int before = answers;
        if (!Document.says(words)) {
            tell("the document does not say so");
        }
        try {
            test.accept(this);
        } catch (RuntimeException e) {
            tell("ended by " + e);
        }
        if (answers == before) {
            tell("nothing was asked");
        }
        heading = "";
        sentences++;
    }

    void equal(String what, long due, long got) {
        answers++;
        if (due != got) {
            tell(what + ": due is " + due + ", answered " + got
                    + " (0x" + Long.toHexString(due) + ", 0x" + Long.toHexString(got) + ")");
        }
    }

    void that(String what, boolean holds) {
        equal(what, 1, holds ? 1 : 0);
    }

    /** The call must throw this very class and no other. */
    void throwing(String what, Class<? extends RuntimeException> due, Runnable call) {
        Class<?> got = null;
        try {
            call.run();
        } catch (RuntimeException e) {
            got = e.getClass();
        }
        answers++;
        if (got != due) {
            tell(what + ": due is " + due + ", thrown " + got);
        }
    }

    void end() {
        System.out.println(name + ": " + sentences + " sentences, " + answers + " answers, " + wrong + " wrong");
        if (wrong != 0 || answers == 0) {
            System.exit(1);
        }
    }

    private void tell(String what) {
        wrong++;
        System.out.println(name + ": " + heading + what);
    }
}
