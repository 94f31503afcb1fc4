import java.io.IOException;
import java.io.StringWriter;
import java.lang.reflect.Method;
import java.lang.reflect.Modifier;
import java.net.URI;
import java.nio.file.Files;
import java.nio.file.Path;
import java.util.ArrayList;
import java.util.List;
import java.util.regex.Matcher;
import java.util.regex.Pattern;
import javax.tools.JavaCompiler;
import javax.tools.JavaFileObject;
import javax.tools.SimpleJavaFileObject;
import javax.tools.ToolProvider;

/** The examples of README.md compile, and each call there answers what is said behind it; the table has every call. */
public final class ReadmeTest {
    private static final Check CHECK = new Check("ReadmeTest");
    private static final Pattern EXAMPLE = Pattern.compile("(?s)```java\n(.*?)```");
    private static final Pattern ANSWERED = Pattern.compile("(x\\.\\w+\\(.*?\\));\\s*// (-?\\d+)(?:\\b.*)?");

    /** What the examples are turned into; public, since they are compiled by themselves. */
    public static void due(String what, long want, long got) {
        CHECK.due(what, want, got);
    }

    public static void main(String[] args) throws IOException, ReflectiveOperationException {
        String readme = Files.readString(Path.of("README.md"));
        Matcher examples = EXAMPLE.matcher(readme);
        int seen = 0;
        while (examples.find()) {
            runs("Example" + seen, examples.group(1));
            seen++;
        }
        CHECK.due("examples", 2, seen);
        table(readme);
        CHECK.ends();
    }

    private static void runs(String name, String example) throws IOException, ReflectiveOperationException {
        StringBuilder code = new StringBuilder("public class " + name + " { public static void run() {\n");
        int answered = 0;
        for (String line : example.split("\n")) {
            Matcher m = ANSWERED.matcher(line);
            if (m.matches()) {
                String told = m.group(1).replace("\"", "\\\"");
                code.append("ReadmeTest.due(\"").append(told).append("\", ").append(m.group(2)).append("L, ").append(m.group(1))
                        .append(");\n");
                answered++;
            } else {
                CHECK.holds("a number behind " + line, !line.contains("//"));
                code.append(line).append('\n');
            }
        }
        CHECK.holds(name + " tells answers", answered > 10);
        Path built = Files.createTempDirectory("readme");
        if (compiles(name, code.append("} }\n").toString(), built)) {
            new Loader(Files.readAllBytes(built.resolve(name + ".class"))).run(name);
        }
        Files.deleteIfExists(built.resolve(name + ".class"));
        Files.delete(built);
    }

    private static boolean compiles(String name, String code, Path built) {
        JavaCompiler javac = ToolProvider.getSystemJavaCompiler();
        JavaFileObject source = new SimpleJavaFileObject(URI.create("string:///" + name + ".java"), JavaFileObject.Kind.SOURCE) {
            @Override
            public CharSequence getCharContent(boolean ignored) {
                return code;
            }
        };
        StringWriter told = new StringWriter();
        List<String> options = List.of("-d", built.toString(), "-cp", System.getProperty("java.class.path"));
        boolean compiled = javac.getTask(told, null, null, options, null, List.of(source)).call();
        CHECK.same(name + " compiles", "", told.toString());
        return compiled;
    }

    private static final class Loader extends ClassLoader {
        private final byte[] code;

        Loader(byte[] code) {
            super(ReadmeTest.class.getClassLoader());
            this.code = code;
        }

        void run(String name) throws ReflectiveOperationException {
            defineClass(name, code, 0, code.length).getMethod("run").invoke(null);
        }
    }

    private static void table(String readme) {
        List<String> rows = new ArrayList<>();
        for (String line : readme.split("\n")) {
            if (line.startsWith("| `")) {
                rows.add(line);
            }
        }
        String all = String.join("\n", rows);
        for (Method m : BentQuarters.class.getDeclaredMethods()) {
            if (Modifier.isPublic(m.getModifiers())) {
                CHECK.holds("the table has " + m.getName(), all.contains("`" + m.getName() + "("));
            }
        }
    }
}
