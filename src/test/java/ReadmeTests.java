import java.io.IOException;
import java.net.URL;
import java.net.URLClassLoader;
import java.nio.file.Files;
import java.nio.file.Path;
import java.util.List;
import java.util.regex.Matcher;
import java.util.regex.Pattern;
import javax.tools.JavaCompiler;
import javax.tools.ToolProvider;

/** The example of README.md: it compiles, and each number in it is the one that its comment says. */
public final class ReadmeTests {
    private static final Check CHECK = new Check("ReadmeTests");
    private static final String NAME = "ReadmeExample";
    /** A line such as: int time = machine.now(); // 128: the time */
    private static final Pattern ANSWER = Pattern.compile("(?:int|long) (\\w+) = .*; +// ([\\w.-]+)(?::.*)?");

    public static void main(String[] args) throws Exception {
        Path readme = Path.of("README.md");
        if (!Files.exists(readme)) {
            System.out.println("ReadmeTests is run where README.md is");
            System.exit(1);
        }
        Path directory = Files.createTempDirectory("readme");
        Path source = directory.resolve(NAME + ".java");
        Path compiled = directory.resolve(NAME + ".class");
        try {
            Files.writeString(source, program(Files.readAllLines(readme)));
            compile(source);
            run(directory);
        } finally {
            Files.deleteIfExists(source);
            Files.deleteIfExists(compiled);
            Files.deleteIfExists(directory);
        }
        CHECK.end();
    }

    private static String program(List<String> lines) {
        StringBuilder text = new StringBuilder("public final class " + NAME + " {\n    public static String[] answers() {\n");
        StringBuilder answers = new StringBuilder();
        boolean inside = false;
        for (String line : lines) {
            if (line.startsWith("```")) {
                inside = line.equals("```java");
            } else if (inside) {
                text.append(line).append('\n');
                Matcher answer = ANSWER.matcher(line);
                if (answer.matches()) {
                    answers.append("\"" + answer.group(1) + "\", \"\" + " + answer.group(1) + ", \"\" + " + answer.group(2) + ",\n");
                }
            }
        }
        return text.append("return new String[] {\n").append(answers).append("};\n    }\n}\n").toString();
    }

    private static void compile(Path source) throws IOException {
        JavaCompiler compiler = ToolProvider.getSystemJavaCompiler();
        String directory = source.getParent().toString();
        int result = compiler.run(null, null, null, "-cp", System.getProperty("java.class.path"), "-d", directory, source.toString());
        CHECK.same("the compiler, for the example of README.md,", result, 0);
    }

    private static void run(Path directory) throws Exception {
        URL[] where = {directory.toUri().toURL()};
        try (URLClassLoader loader = new URLClassLoader(where, ReadmeTests.class.getClassLoader())) {
            String[] answers = (String[]) loader.loadClass(NAME).getMethod("answers").invoke(null);
            CHECK.yes("README.md says answers", answers.length > 0);
            for (int i = 0; i < answers.length; i += 3) {
                CHECK.text(answers[i] + " of README.md", answers[i + 1], answers[i + 2]);
            }
        }
    }
}
