import java.io.IOException;
import java.lang.reflect.Constructor;
import java.lang.reflect.Field;
import java.lang.reflect.Method;
import java.lang.reflect.Modifier;
import java.nio.file.Files;
import java.nio.file.Path;
import java.util.ArrayList;
import java.util.List;
import java.util.Set;
import java.util.TreeSet;
import java.util.regex.Pattern;

/** Those rules of ../shared/LANGUAGE.md that show in the class and its text. */
public final class LanguageTest {

    private static final Path SOURCE = Path.of("src", "main", "java", "SupervisorMachine.java");
    private static final Pattern REFUSED = Pattern.compile("->|::|\\b(import|package|synchronized|assert|finally|try"
            + "|instanceof|double|float|Object|System\\.(?!arraycopy)\\w+|equals|hashCode|toString)\\b");
    private static final Pattern THROWN = Pattern.compile("throw new (IllegalState|IllegalArgument|IndexOutOfBounds)"
            + "Exception\\(\\);");
    private static final Pattern METHOD = Pattern.compile(
            " +(private |public |static )*(?!private|public|static)[\\w\\[\\]]+ \\w+\\([^;]*\\{");
    private static final int MOST_CLASSES = 12;
    private static final int MOST_FIELDS = 20;
    private static final int MOST_PARAMETERS = 7;
    private static final int MOST_LINES = 60;

    public static void main(String[] args) throws IOException {
        Check check = new Check("LanguageTest");
        List<Class<?>> inside = inside();
        check.that("rule 11, at most twelve classes", inside.size() + 1 <= MOST_CLASSES);
        classAlone(check, SupervisorMachine.class);
        for (Class<?> one : inside) {
            int modifiers = one.getModifiers();
            check.that("rule 1, static and not to be seen: " + one, Modifier.isStatic(modifiers)
                    && !Modifier.isPublic(modifiers) && !Modifier.isProtected(modifiers));
            classAlone(check, one);
        }
        names(check);
        List<String> lines = withoutComments(Files.readAllLines(SOURCE));
        words(check, lines);
        methods(check, lines);
        check.end();
    }

    private static List<Class<?>> inside() {
        List<Class<?>> found = new ArrayList<>();
        for (Class<?> one : SupervisorMachine.class.getDeclaredClasses()) {
            if (!one.isSynthetic()) {
                found.add(one);
            }
        }
        return found;
    }

    private static void classAlone(Check check, Class<?> one) {
        int fields = 0;
        for (Field f : one.getDeclaredFields()) {
            boolean isStatic = Modifier.isStatic(f.getModifiers());
            fields += isStatic ? 0 : 1;
            check.that("rule 5, static fields are final: " + f, !isStatic || Modifier.isFinal(f.getModifiers()));
        }
        check.that("rule 11, at most twenty fields: " + one, fields <= MOST_FIELDS);
        for (Method m : one.getDeclaredMethods()) {
            check.that("rule 11, parameters: " + m, m.getParameterCount() <= MOST_PARAMETERS);
        }
        for (Constructor<?> c : one.getDeclaredConstructors()) {
            check.that("rule 11, parameters: " + c, c.getParameterCount() <= MOST_PARAMETERS);
        }
    }

    private static void names(Check check) {
        Set<String> seen = new TreeSet<>();
        Set<String> hidden = new TreeSet<>();
        for (Method m : SupervisorMachine.class.getDeclaredMethods()) {
            (Modifier.isPrivate(m.getModifiers()) ? hidden : seen).add(m.getName());
        }
        hidden.retainAll(seen);
        check.that("rule 1, no private method bears the name of a public one: " + hidden, hidden.isEmpty());
    }

    private static List<String> withoutComments(List<String> lines) {
        List<String> left = new ArrayList<>();
        for (String line : lines) {
            String text = line.trim();
            boolean isComment = text.startsWith("/*") || text.startsWith("*") || text.startsWith("//");
            left.add(isComment ? "" : line);
        }
        return left;
    }

    private static void words(Check check, List<String> lines) {
        for (String line : lines) {
            check.that("rules 2, 4, 6, what is left out: " + line, !REFUSED.matcher(line).find());
            check.that("rule 6, what is thrown: " + line, !line.contains("throw ") || THROWN.matcher(line).find());
        }
    }

    // A constructor has no type before its name, so what it makes is not met here.
    private static void methods(Check check, List<String> lines) {
        int from = -1;
        String end = "";
        int found = 0;
        for (int i = 0; i < lines.size(); i++) {
            String line = lines.get(i);
            if (from < 0 && METHOD.matcher(line).matches() && !line.contains(" class ")) {
                from = i;
                end = " ".repeat(line.length() - line.stripLeading().length()) + "}";
                found++;
            }
            if (from >= 0) {
                check.that("rule 12, made once and used again: " + line,
                        !line.contains("new ") || line.contains("throw new "));
            }
            if (from >= 0 && line.equals(end)) {
                check.that("rule 11, some sixty lines: " + lines.get(from), i - from < MOST_LINES);
                from = -1;
            }
        }
        check.that("methods were found in the text", found > 100);
    }
}
