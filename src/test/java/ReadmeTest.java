import java.io.IOException;
import java.io.StringWriter;
import java.lang.reflect.Field;
import java.lang.reflect.Method;
import java.lang.reflect.Modifier;
import java.net.URL;
import java.net.URLClassLoader;
import java.nio.file.Files;
import java.nio.file.Path;
import java.util.ArrayList;
import java.util.Arrays;
import java.util.List;
import java.util.TreeSet;
import java.util.regex.MatchResult;
import java.util.regex.Matcher;
import java.util.regex.Pattern;
import javax.tools.JavaCompiler;
import javax.tools.ToolProvider;

/** What README.md shows of calls and answers holds when it is run; its tables are those of the face and of the tests. */
public final class ReadmeTest {
    private static final Path README = Path.of("README.md");
    private static final Path TESTS = Path.of("src/test/java");
    private static final Pattern EXAMPLE = Pattern.compile("(?ms)^```java\n(.*?)^```$");
    /** A call, and behind // what it answers, or throws and the exception. */
    private static final Pattern SHOWN = Pattern.compile("^(tongue\\.\\w+\\(.*?\\)); +// (?:throws )?([-\\w]+)(:.*)?$");
    private static final Pattern CALL = Pattern.compile("^\\| `(\\w+)\\((.*?)\\)` \\|.*\\|(.*)\\|$");
    private static final Pattern CONSTANT = Pattern.compile("^\\| `([A-Z]+)` \\| (-?\\d+) \\|.*");

    public static void main(String[] args) throws IOException, ReflectiveOperationException {
        String page = Files.readString(README);
        calls(page);
        constants(page);
        tests(page);
        examples(page);
        Due.finish("ReadmeTest");
    }

    /** The tables of calls tell each method, how many arguments it takes, and what it throws, in its order. */
    private static void calls(String page) {
        TreeSet<String> told = new TreeSet<>();
        for (String line : page.split("\n")) {
            Matcher call = CALL.matcher(line);
            if (call.matches()) {
                int many = call.group(2).isEmpty() ? 0 : call.group(2).split(",").length;
                List<String> thrown = Pattern.compile("I[A-Z]+E").matcher(call.group(3)).results().map(MatchResult::group).toList();
                told.add(call.group(1) + " " + many + " " + thrown);
            }
        }
        TreeSet<String> face = new TreeSet<>();
        for (Method method : Marktongue.class.getDeclaredMethods()) {
            if (Modifier.isPublic(method.getModifiers())) {
                List<String> thrown = Arrays.stream(method.getExceptionTypes()).map(type -> type.getSimpleName().replaceAll("[a-z]", "")).toList();
                face.add(method.getName() + " " + method.getParameterCount() + " " + thrown);
            }
        }
        Due.same("calls", told, face);
    }

    private static void constants(String page) throws IllegalAccessException {
        TreeSet<String> told = new TreeSet<>();
        for (String line : page.split("\n")) {
            Matcher constant = CONSTANT.matcher(line);
            if (constant.matches()) {
                told.add(constant.group(1) + "=" + constant.group(2));
            }
        }
        TreeSet<String> face = new TreeSet<>();
        for (Field field : Marktongue.class.getDeclaredFields()) {
            if (Modifier.isPublic(field.getModifiers())) {
                face.add(field.getName() + "=" + field.getInt(null));
            }
        }
        Due.same("constants", told, face);
    }

    private static void tests(String page) throws IOException {
        TreeSet<String> there = new TreeSet<>();
        try (var files = Files.list(TESTS)) {
            files.map(file -> file.getFileName().toString().replace(".java", "")).filter(name -> name.endsWith("Test")).forEach(there::add);
        }
        TreeSet<String> told = new TreeSet<>();
        for (String line : page.split("\n")) {
            if (line.matches("\\| \\w+Test\\b.*")) {
                told.addAll(List.of(line.split(" \\| ")[0].substring(2).split(", ")));
            }
        }
        Due.same("tests", told, there);
    }

    /** Makes a class of all examples, compiles and runs it. */
    private static void examples(String page) throws IOException, ReflectiveOperationException {
        StringBuilder source = new StringBuilder("public final class Examples {\n");
        source.append("public static final java.util.List<String[]> ANSWERS = new java.util.ArrayList<>();\n");
        StringBuilder runs = new StringBuilder();
        int many = 0;
        Matcher example = EXAMPLE.matcher(page);
        while (example.find()) {
            if (example.group(1).startsWith("static ")) {
                source.append(example.group(1));
                continue;
            }
            many++;
            source.append("static void example").append(many).append("() {\n").append(checked(example.group(1))).append("}\n");
            runs.append("example").append(many).append("();\n");
        }
        Due.same("examples that were looked at", many >= 7, true);
        source.append("public static void main(String[] args) {\n").append(runs).append("}\n");
        source.append("interface Call {\nint answer();\n}\n");
        source.append("static void show(String line, String due, Call call) {\nString got;\ntry {\ngot = \"\" + call.answer();\n");
        source.append("} catch (RuntimeException thrown) {\ngot = thrown.getClass().getSimpleName();\n}\n");
        source.append("ANSWERS.add(new String[] {line, got, due});\n}\n}\n");
        run(source.toString());
    }

    private static String checked(String example) {
        List<String> lines = new ArrayList<>();
        for (String line : example.split("\n")) {
            Matcher shown = SHOWN.matcher(line);
            if (shown.matches()) {
                String name = line.replace("\\", "\\\\").replace("\"", "\\\"");
                lines.add("show(\"" + name + "\", \"" + shown.group(2) + "\", () -> " + shown.group(1) + ");\n");
            } else {
                Due.same("no answer shown: " + line, line.startsWith("type(tongue, ") || line.equals("Marktongue tongue = new Marktongue();"), true);
                lines.add(line + "\n");
            }
        }
        return String.join("", lines);
    }

    private static void run(String source) throws IOException, ReflectiveOperationException {
        Path build = Files.createTempDirectory("readme");
        Path file = build.resolve("Examples.java");
        Files.writeString(file, source);
        JavaCompiler compiler = ToolProvider.getSystemJavaCompiler();
        StringWriter told = new StringWriter();
        List<String> options = List.of("-d", build.toString(), "-cp", System.getProperty("java.class.path"), "-proc:none");
        boolean isBuilt = compiler.getTask(told, null, null, options, null,
                compiler.getStandardFileManager(null, null, null).getJavaFileObjects(file)).call();
        Due.same("examples are built" + told, isBuilt, true);
        if (isBuilt) {
            try (URLClassLoader loader = new URLClassLoader(new URL[] {build.toUri().toURL()})) {
                compare(loader.loadClass("Examples"));
            }
        }
        try (var files = Files.list(build)) {
            for (Path made : files.toList()) {
                Files.delete(made);
            }
        }
        Files.delete(build);
    }

    private static void compare(Class<?> examples) throws ReflectiveOperationException {
        examples.getMethod("main", String[].class).invoke(null, (Object) new String[0]);
        List<?> answers = (List<?>) examples.getField("ANSWERS").get(null);
        Due.same("answers that were looked at", answers.size() >= 50, true);
        for (Object answer : answers) {
            String[] shown = (String[]) answer;
            Due.same(shown[0], shown[1], shown[2]);
        }
    }
}
