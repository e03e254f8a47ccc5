import java.io.IOException;
import java.net.URL;
import java.net.URLClassLoader;
import java.nio.charset.StandardCharsets;
import java.nio.file.Files;
import java.nio.file.Path;
import java.util.ArrayList;
import java.util.Comparator;
import java.util.List;
import java.util.regex.Matcher;
import java.util.regex.Pattern;
import java.util.stream.Collectors;
import java.util.stream.Stream;
import javax.tools.JavaCompiler;
import javax.tools.ToolProvider;

/**
 * The example of README.md, line by line: it can be compiled, and each call answers what stands behind it. It is run in
 * the project's folder.
 */
public final class ReadmeTest {
    private static final Pattern EXAMPLE = Pattern.compile("(?s)```java\\n(.*?)```");
    private static final Pattern ANSWER = Pattern.compile("(int \\w+ = )?(city\\..*);\\s+// answers (\\S+)");
    private static final Pattern CALL = Pattern.compile("city\\.(\\w+)\\(");

    public static void main(String[] args) throws IOException, ReflectiveOperationException {
        String readme = Files.readString(Path.of("README.md"), StandardCharsets.UTF_8);
        Matcher example = EXAMPLE.matcher(readme);
        Check.is("README.md has an example", true, example.find());
        List<String> lines = example.group(1).lines().collect(Collectors.toList());
        List<String> due = new ArrayList<>();
        for (String line : lines) {
            Matcher told = ANSWER.matcher(line);
            boolean isCall = CALL.matcher(line).find() && !line.startsWith("city.route(");
            Check.is("told what it answers: " + line, isCall, told.matches());
            if (isCall && told.matches()) {
                due.add(told.group(2) + ": " + told.group(3));
            }
        }
        List<String> got = answersOf(program(lines));
        for (int i = 0; i < due.size(); i++) {
            Check.same("README.md", due.get(i), got.get(i));
        }
        Check.same("what README.md does not name", List.of(), unnamed(readme));
        Check.finish("ReadmeTest");
    }

    /** The example as a class that tells what each of its calls answers. */
    private static String program(List<String> lines) {
        StringBuilder program = new StringBuilder();
        program.append("public final class Example implements java.util.function.Consumer<java.util.List<String>> {\n");
        program.append("public void accept(java.util.List<String> answers) {\n");
        for (String line : lines) {
            program.append(telling(line)).append('\n');
        }
        return program.append("}\n}\n").toString();
    }

    private static String telling(String line) {
        Matcher told = ANSWER.matcher(line);
        if (!told.matches()) {
            return line;
        }
        String call = told.group(2);
        String tell = "answers.add(\"" + call + ": \" + ";
        if (told.group(1) == null) {
            return tell + call + ");";
        }
        return told.group(1) + call + "; " + tell + told.group(1).split(" ")[1] + ");";
    }

    private static List<String> answersOf(String program) throws IOException, ReflectiveOperationException {
        Path folder = Files.createTempDirectory("example");
        try {
            Path source = Files.writeString(folder.resolve("Example.java"), program);
            String classes = System.getProperty("java.class.path");
            Check.is("the example is compiled", 0, compile("-cp", classes, "-d", folder.toString(), source.toString()));
            List<String> answers = new ArrayList<>();
            try (URLClassLoader loader = new URLClassLoader(new URL[] {folder.toUri().toURL()})) {
                Class<?> example = loader.loadClass("Example");
                Object made = example.getDeclaredConstructor().newInstance();
                example.getMethod("accept", List.class).invoke(made, answers);
            }
            return answers;
        } finally {
            remove(folder);
        }
    }

    private static int compile(String... arguments) {
        JavaCompiler compiler = ToolProvider.getSystemJavaCompiler();
        return compiler.run(null, System.out, System.out, arguments);
    }

    private static void remove(Path folder) throws IOException {
        try (Stream<Path> files = Files.walk(folder)) {
            for (Path file : files.sorted(Comparator.reverseOrder()).collect(Collectors.toList())) {
                Files.delete(file);
            }
        }
    }

    private static List<String> unnamed(String readme) throws IOException {
        try (Stream<Path> files = Files.list(Path.of("src/test/java"))) {
            return files.map(file -> file.getFileName().toString().replace(".java", "")).sorted()
                    .filter(name -> !readme.contains("`" + name + "`")).collect(Collectors.toList());
        }
    }
}
