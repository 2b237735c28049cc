import java.io.IOException;
import java.net.URI;
import java.nio.file.Files;
import java.nio.file.Path;
import java.util.ArrayList;
import java.util.List;
import java.util.regex.Matcher;
import java.util.regex.Pattern;
import javax.tools.JavaCompiler;
import javax.tools.JavaFileObject;
import javax.tools.SimpleJavaFileObject;
import javax.tools.ToolProvider;

/** README.md's examples are compiled and run; what a line's comment says that it answers must be so. */
public final class ReadmeTests {
    private static final Pattern EXAMPLE = Pattern.compile("(?s)```java\n(.*?)```");
    private static final Pattern ANSWER = Pattern.compile("(cell\\..*\\));\\s*// is (-?\\d+)(:.*)?");
    private static final Pattern FAILURE = Pattern.compile("(cell\\..*\\));\\s*// throws (\\w+)(:.*)?");

    private ReadmeTests() {
    }

    public static void main(String[] args) throws IOException, ReflectiveOperationException {
        String text = Files.readString(Path.of("README.md"));
        List<String> bodies = new ArrayList<>();
        Matcher example = EXAMPLE.matcher(text);
        while (example.find()) {
            bodies.add(checked(example.group(1)));
        }
        Check.same("README.md: examples", bodies.size(), 3);
        run(bodies);
        namesWholeFace(text);
        Check.end();
    }

    /** The example's lines, those that tell of an answer as calls of Check. */
    private static String checked(String lines) {
        StringBuilder body = new StringBuilder();
        for (String line : lines.split("\n")) {
            Matcher answer = ANSWER.matcher(line);
            Matcher failure = FAILURE.matcher(line);
            if (answer.matches()) {
                body.append("Check.same(\"README.md: ").append(answer.group(1)).append("\", ")
                        .append(answer.group(1)).append(", ").append(answer.group(2)).append("L);\n");
            } else if (failure.matches()) {
                body.append("Check.fails(\"README.md: ").append(failure.group(1)).append("\", ")
                        .append(failure.group(2)).append(".class, () -> ").append(failure.group(1)).append(");\n");
            } else {
                Check.that("README.md: read wholly: " + line, !line.contains("// is ") && !line.contains("// throws "));
                body.append(line).append('\n');
            }
        }
        return body.toString();
    }

    private static void run(List<String> bodies) throws IOException, ReflectiveOperationException {
        StringBuilder source = new StringBuilder("final class ReadmeExamples {\n");
        for (int i = 0; i < bodies.size(); i++) {
            source.append("static void example").append(i).append("() {\n").append(bodies.get(i)).append("}\n");
        }
        source.append("}\n");
        Path out = Path.of(URI.create(RobotCell.class.getResource("RobotCell.class").toString())).getParent();
        JavaCompiler compiler = ToolProvider.getSystemJavaCompiler();
        List<String> options = List.of("-d", out.toString(), "-cp", out.toString());
        boolean compiled = compiler.getTask(null, null, null, options, null,
                List.of(new Source(source.toString()))).call();
        Check.that("README.md: the examples compile", compiled);
        for (int i = 0; compiled && i < bodies.size(); i++) {
            Class.forName("ReadmeExamples").getDeclaredMethod("example" + i).invoke(null);
        }
    }

    private static void namesWholeFace(String text) {
        for (java.lang.reflect.Method method : RobotCell.class.getDeclaredMethods()) {
            if (java.lang.reflect.Modifier.isPublic(method.getModifiers())) {
                Check.that("README.md: tells of " + method.getName(), text.contains("`" + method.getName() + "("));
            }
        }
    }

    private static final class Source extends SimpleJavaFileObject {
        private final String text;

        Source(String text) {
            super(URI.create("string:///ReadmeExamples.java"), JavaFileObject.Kind.SOURCE);
            this.text = text;
        }

        @Override
        public CharSequence getCharContent(boolean ignoreEncodingErrors) {
            return text;
        }
    }
}
