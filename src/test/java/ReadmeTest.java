import java.io.IOException;
import java.net.URL;
import java.net.URLClassLoader;
import java.nio.file.Files;
import java.nio.file.Path;
import java.util.LinkedHashMap;
import java.util.Map;
import java.util.Set;
import java.util.TreeSet;
import java.util.function.Supplier;
import java.util.regex.Matcher;
import java.util.regex.Pattern;
import java.util.stream.Stream;
import javax.tools.ToolProvider;

/** README.md: its example compiles and answers what it says there, and each call stands there with its exceptions. */
final class ReadmeTest {
    private static final Pattern EXAMPLE = Pattern.compile("```java\n(.*?)```", Pattern.DOTALL);
    private static final Pattern ANSWER = Pattern.compile("(?:int|boolean) (\\w+) = plans.*; +// (-?\\d+|true|false)\\b.*");
    private static final Pattern CALL = Pattern.compile("^- `(\\w+ \\w+\\([^)]*\\))`:((?:.|\n  )*)", Pattern.MULTILINE);
    private static final Pattern REFUSAL = Pattern.compile("`(\\w+Exception)`");

    public static void main(String[] args) throws Exception {
        String readme = Files.readString(Path.of("README.md"));
        checkExample(readme);
        checkCalls(readme);
        Check.end();
    }

    private static void checkExample(String readme) throws Exception {
        Matcher example = EXAMPLE.matcher(readme);
        Check.due("README.md has an example", example.find(), true);
        StringBuilder body = new StringBuilder();
        Map<String, String> want = new LinkedHashMap<>();
        for (String line : example.group(1).lines().toList()) {
            body.append(line).append('\n');
            Matcher answer = ANSWER.matcher(line);
            if (answer.matches()) {
                body.append("got.put(\"").append(answer.group(1)).append("\", \"\" + ").append(answer.group(1)).append(");\n");
                want.put(answer.group(1), answer.group(2));
            }
        }
        Map<String, String> got = answersOf(body.toString());
        want.forEach((name, answer) -> Check.due("README.md: " + name, got.get(name), answer));
    }

    private static Map<String, String> answersOf(String body) throws Exception {
        Path folder = Files.createTempDirectory("readme");
        try {
            Path source = Files.writeString(folder.resolve("Example.java"), """
                public class Example implements java.util.function.Supplier<java.util.Map<String, String>> {
                    public java.util.Map<String, String> get() {
                        java.util.Map<String, String> got = new java.util.HashMap<>();
                """ + body + "return got;\n}\n}\n");
            int code = ToolProvider.getSystemJavaCompiler().run(null, null, null,
                "-cp", System.getProperty("java.class.path"), "-d", folder.toString(), source.toString());
            Check.due("README.md: javac of its example", code, 0);
            try (URLClassLoader loader = new URLClassLoader(new URL[] {folder.toUri().toURL()})) {
                Map<String, String> got = new LinkedHashMap<>();
                Object example = loader.loadClass("Example").getConstructor().newInstance();
                ((Map<?, ?>) ((Supplier<?>) example).get()).forEach((name, answer) -> got.put((String) name, (String) answer));
                return got;
            }
        } finally {
            remove(folder);
        }
    }

    private static void remove(Path folder) throws IOException {
        try (Stream<Path> files = Files.list(folder)) {
            for (Path file : files.toList()) {
                Files.delete(file);
            }
        }
        Files.delete(folder);
    }

    private static void checkCalls(String readme) {
        Set<String> told = new TreeSet<>();
        Matcher call = CALL.matcher(readme);
        while (call.find()) {
            Set<String> refusals = new TreeSet<>();
            REFUSAL.matcher(call.group(2)).results().forEach(refusal -> refusals.add(refusal.group(1)));
            told.add(call.group(1).replaceAll("int \\w+([,)])", "int$1").replace(", ", ",") + " " + refusals);
        }
        Set<String> due = new TreeSet<>();
        for (java.lang.reflect.Method m : WavePlans.class.getMethods()) {
            if (m.getDeclaringClass() == WavePlans.class) {
                Set<String> refusals = new TreeSet<>();
                Stream.of(m.getExceptionTypes()).forEach(refusal -> refusals.add(refusal.getSimpleName()));
                String head = m.toString().replaceAll("public (\\w+) WavePlans\\.(\\w+\\([^)]*\\)).*", "$1 $2");
                due.add(head + " " + refusals);
            }
        }
        Check.due("README.md: its calls", told.toString(), due.toString());
    }
}
