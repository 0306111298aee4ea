import java.io.IOException;
import java.lang.reflect.InvocationTargetException;
import java.lang.reflect.Method;
import java.lang.reflect.Modifier;
import java.net.URL;
import java.net.URLClassLoader;
import java.nio.file.Files;
import java.nio.file.Path;
import java.util.ArrayList;
import java.util.List;
import java.util.regex.Matcher;
import java.util.regex.Pattern;
import java.util.spi.ToolProvider;

/** README.md tells what is so, by its example and its tables of calls and tests; it runs from the project's folder. */
public final class ReadmeTest {
    private static final Path FOLDER = Path.of("build/example");

    public static void main(String[] args) throws IOException, ReflectiveOperationException {
        List<String> lines = Files.readAllLines(Path.of("README.md"));
        exampleAnswersSo(lines);
        callsAreTold(lines);
        testsAreTold(lines);
        Due.end();
    }

    // ---- the example ----

    private static void exampleAnswersSo(List<String> lines) throws IOException, ReflectiveOperationException {
        int begin = lines.indexOf("```java") + 1;
        List<String> calls = lines.subList(begin, begin + lines.subList(begin, lines.size()).indexOf("```"));
        StringBuilder body = new StringBuilder();
        List<String> want = new ArrayList<>();
        for (String line : calls) {
            String[] parts = line.split(" *// ");
            if (parts.length == 2) {
                want.add(parts[1].replaceFirst(",.*", ""));
            }
            body.append(parts.length == 2 ? told(parts[0]) : line).append('\n');
        }
        List<?> got = answersOf(body.toString());
        Due.is("an example with answers", want.size() > 10, true);
        Due.is("answers of the example", got.size(), want.size());
        for (int i = 0; i < Math.min(got.size(), want.size()); i++) {
            Due.isText("answer " + i + " of the example", String.valueOf(got.get(i)), want.get(i));
        }
    }

    /** The statement, followed by one that keeps its answer; "int red = call;" keeps red, "call;" the call's own. */
    private static String told(String statement) {
        Matcher made = Pattern.compile("int (\\w+) = .*;").matcher(statement);
        if (made.matches()) {
            return statement + " got.add(" + made.group(1) + ");";
        }
        return "try { got.add(" + statement.replace(";", "")
                + "); } catch (RuntimeException e) { got.add(e.getClass().getSimpleName()); }";
    }

    private static List<?> answersOf(String body) throws IOException, ReflectiveOperationException {
        Files.createDirectories(FOLDER);
        Path source = FOLDER.resolve("Example.java");
        Files.writeString(source, "public class Example {\n    public static java.util.List<Object> answers() {\n"
                + "java.util.List<Object> got = new java.util.ArrayList<>();\n" + body + "return got;\n    }\n}\n");
        int failed = ToolProvider.findFirst("javac").orElseThrow().run(System.out, System.out,
                "-cp", System.getProperty("java.class.path"), "-d", FOLDER.toString(), source.toString());
        Due.is("the example compiles", failed, 0);
        if (failed != 0) {
            return List.of();
        }
        try (URLClassLoader loader = new URLClassLoader(new URL[] {FOLDER.toUri().toURL()})) {
            return (List<?>) loader.loadClass("Example").getMethod("answers").invoke(null);
        } catch (InvocationTargetException e) {
            Due.complain("the example throws " + e.getCause());
            return List.of();
        }
    }

    // ---- the calls ----

    private static void callsAreTold(List<String> lines) {
        int methods = 0;
        for (Method method : Beadslant.class.getDeclaredMethods()) {
            if (Modifier.isPublic(method.getModifiers())) {
                methods++;
                isTold(method, lines);
            }
        }
        Due.is("rows of calls", lines.stream().filter(line -> line.matches("\\| `\\w+\\(.*")).count(), methods);
    }

    private static void isTold(Method method, List<String> lines) {
        for (String line : lines) {
            if (line.startsWith("| `" + method.getName() + "(")) {
                String[] cells = line.split(" *\\| *");
                String parameters = cells[1].replaceAll("^`\\w+\\(|\\)`$", "");
                Due.is("parameters told of " + method.getName(),
                        parameters.isEmpty() ? 0 : parameters.split(", ").length, method.getParameterCount());
                Due.isText("exceptions told of " + method.getName(), thrownIn(cells[3]), thrownBy(method));
                return;
            }
        }
        Due.complain("README.md does not tell " + method.getName());
    }

    private static String thrownIn(String cell) {
        StringBuilder names = new StringBuilder();
        Matcher name = Pattern.compile("`([A-Z]\\w+)`").matcher(cell);
        while (name.find()) {
            names.append(name.group(1)).append(' ');
        }
        return names.length() == 0 && !cell.equals("nothing") ? "no word of it" : names.toString();
    }

    private static String thrownBy(Method method) {
        StringBuilder names = new StringBuilder();
        for (Class<?> thrown : method.getExceptionTypes()) {
            names.append(thrown.getSimpleName().replaceFirst("Exception$", "")).append(' ');
        }
        return names.toString();
    }

    // ---- the tests ----

    private static void testsAreTold(List<String> lines) throws IOException {
        try (var files = Files.list(Path.of("src/test/java"))) {
            for (Path file : files.sorted().toList()) {
                String name = file.getFileName().toString().replaceFirst("\\.java$", "");
                if (name.endsWith("Test")) {
                    boolean isTold = lines.stream().anyMatch(line -> line.startsWith("| " + name + " |"));
                    Due.is(name + " is told", isTold, true);
                }
            }
        }
    }
}
