import java.lang.reflect.Constructor;
import java.lang.reflect.Field;
import java.lang.reflect.Method;
import java.lang.reflect.Modifier;
import java.util.Arrays;
import java.util.TreeSet;

/** The public face: its members, what they throw, and that nothing else can be seen from outside. */
public final class FaceTest {

    private static final String[] FACE = {
        "put(int,int) void IndexOutOfBoundsException",
        "fill(int,int,long) void IllegalArgumentException,IndexOutOfBoundsException",
        "fence(int) void IndexOutOfBoundsException",
        "reset() void",
        "step() int IllegalStateException",
        "run(int) int IllegalArgumentException",
        "level(int) void IllegalArgumentException",
        "type(int) boolean",
        "said(int) int",
        "get(int) int IndexOutOfBoundsException",
        "set(int,int) void IndexOutOfBoundsException",
        "memory(int) int",
        "device(int) int IndexOutOfBoundsException",
        "state() int",
        "counted(int) int",
    };

    public static void main(String[] args) {
        Check check = new Check("FaceTest");
        check.equal("NONE", -1, SupervisorMachine.NONE);
        check.that("public and final", Modifier.isPublic(SupervisorMachine.class.getModifiers())
                && Modifier.isFinal(SupervisorMachine.class.getModifiers()));
        check.that("methods are the document's", methods().equals(new TreeSet<>(Arrays.asList(FACE))));
        check.that("one constructor without arguments", constructors());
        check.that("NONE is the one field to be seen", fields());
        check.end();
    }

    private static TreeSet<String> methods() {
        TreeSet<String> found = new TreeSet<>();
        for (Method m : SupervisorMachine.class.getDeclaredMethods()) {
            if (Modifier.isPrivate(m.getModifiers()) || m.isSynthetic()) {
                continue;
            }
            String text = m.getName() + "(" + names(m.getParameterTypes()) + ") " + m.getReturnType().getSimpleName()
                    + " " + names(m.getExceptionTypes());
            found.add((Modifier.isPublic(m.getModifiers()) ? "" : "not public: ") + text.trim());
        }
        return found;
    }

    private static String names(Class<?>[] types) {
        StringBuilder text = new StringBuilder();
        for (Class<?> type : types) {
            text.append(text.length() == 0 ? "" : ",").append(type.getSimpleName());
        }
        return text.toString();
    }

    private static boolean constructors() {
        Constructor<?>[] all = SupervisorMachine.class.getDeclaredConstructors();
        return all.length == 1 && all[0].getParameterCount() == 0 && Modifier.isPublic(all[0].getModifiers());
    }

    private static boolean fields() {
        for (Field f : SupervisorMachine.class.getDeclaredFields()) {
            boolean isNone = f.getName().equals("NONE") && Modifier.isPublic(f.getModifiers());
            if (!isNone && !Modifier.isPrivate(f.getModifiers()) && !f.isSynthetic()) {
                return false;
            }
        }
        return true;
    }
}
