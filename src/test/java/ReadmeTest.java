import java.io.IOException;
import java.nio.file.Files;
import java.nio.file.Path;
import java.util.List;
import java.util.regex.Pattern;
import java.util.stream.Collectors;
import javax.tools.ToolProvider;

/**
 * The examples of README.md do what it says: each is compiled as it stands there, and where a comment begins
 * with a number, that is the answer that is due of the call before it.
 */
public final class ReadmeTest {

    private static final Pattern EXAMPLE = Pattern.compile("```java\\n(.*?)```", Pattern.DOTALL);
    private static final Pattern ANSWER = Pattern.compile("(m\\.\\w+\\(.*?\\)); +// (-?\\d+)\\b.*");

    public static void main(String[] args) throws IOException, ReflectiveOperationException {
        Check check = new Check("ReadmeTest");
        List<String> examples = examples(Files.readString(Path.of("README.md")));
        check.equal("examples", 3, examples.size());
        for (int i = 0; i < examples.size(); i++) {
            String name = "ReadmeExample" + i;
            compile(name, source(name, examples.get(i)));
            Class.forName(name).getDeclaredMethod("ask", Check.class).invoke(null, check);
        }
        check.end();
    }

    private static List<String> examples(String readme) {
        return EXAMPLE.matcher(readme).results().map(found -> found.group(1)).collect(Collectors.toList());
    }

    private static String source(String name, String example) {
        return "final class " + name + " { static void ask(Check check) {\n"
                + ANSWER.matcher(example).replaceAll("check.equal(\"" + name + ", $1\", $2, $1);") + "} }\n";
    }

    // The class path of a test is one folder, which .ci/run makes and takes away.
    private static void compile(String name, String source) throws IOException {
        String folder = System.getProperty("java.class.path");
        Path file = Files.writeString(Path.of(folder, name + ".java"), source);
        int code = ToolProvider.getSystemJavaCompiler().run(null, null, null,
                "-cp", folder, "-d", folder, file.toString());
        if (code != 0) {
            throw new IllegalStateException("an example does not compile: " + source);
        }
    }
}
