import java.io.IOException;
import java.net.URL;
import java.net.URLClassLoader;
import java.nio.file.Files;
import java.nio.file.Path;
import java.util.List;
import java.util.regex.Matcher;
import java.util.regex.Pattern;
import java.util.stream.Stream;
import javax.tools.JavaCompiler;
import javax.tools.ToolProvider;

/** README.md: its example answers as it says, and it tells of each call and of each test. */
public final class ReadmeTests {
    private static final Pattern CALL = Pattern.compile(
        "(?:(?:int|long) (\\w+) = )?(x\\.\\w+\\(.*\\));\\s*// (-?\\d+|NONE|BAD|STATE|FULL|NO)(?:[:,. ].*)?");
    private static final String HEAD = """
        public final class ReadmeExample {
            private static int wrong = 0;
            private static void due(String call, long got, long want) {
                if (got != want) {
                    wrong++;
                    System.out.println("README.md: " + call + " answered " + got + ", the example says " + want);
                }
            }
            public static int wrongAnswers() {
        """;

    private static int wrong = 0;
    private static int answers = 0;

    private static void refuse(String why) {
        wrong++;
        System.out.println("README.md: " + why);
    }

    private static String javaBlock(String readme) {
        Matcher m = Pattern.compile("```java\n(.*?)```", Pattern.DOTALL).matcher(readme);
        return m.find() ? m.group(1) : "";
    }

    /** A call with its answer behind it becomes a comparison; all other lines stand as they are. */
    private static String compared(String line) {
        Matcher m = CALL.matcher(line);
        if (!m.matches()) {
            if (line.matches("x\\..*|\\w+ \\w+ = x\\..*")) {
                refuse("no answer stands behind " + line);
            }
            return line;
        }
        answers++;
        String want = m.group(3).matches("[A-Z]+") ? "SandInTheShoe." + m.group(3) : m.group(3) + "L";
        String due = "due(\"" + m.group(2) + "\", " + (m.group(1) == null ? m.group(2) : m.group(1)) + ", " + want + ");";
        return m.group(1) == null ? due : "int " + m.group(1) + " = " + m.group(2) + "; " + due;
    }

    private static void example(String readme) throws IOException, ReflectiveOperationException {
        StringBuilder program = new StringBuilder(HEAD);
        javaBlock(readme).lines().forEach(line -> program.append(compared(line)).append('\n'));
        program.append("return wrong; } }\n");
        if (answers == 0) {
            refuse("no example");
        }
        Path out = Files.createTempDirectory("readme");
        Path source = out.resolve("ReadmeExample.java");
        try {
            Files.writeString(source, program);
            JavaCompiler compiler = ToolProvider.getSystemJavaCompiler();
            int status = compiler == null ? 1 : compiler.run(null, null, null,
                "--release", "17", "-d", out.toString(), "-classpath", System.getProperty("java.class.path"), source.toString());
            if (status != 0) {
                refuse("the example does not compile");
                return;
            }
            try (URLClassLoader loader = new URLClassLoader(new URL[] {out.toUri().toURL()})) {
                wrong += (int) loader.loadClass("ReadmeExample").getMethod("wrongAnswers").invoke(null);
            }
        } finally {
            Files.deleteIfExists(out.resolve("ReadmeExample.class"));
            Files.deleteIfExists(source);
            Files.deleteIfExists(out);
        }
    }

    /** Each call with the names of its parameters, as the class has them. */
    private static void calls(String readme, String program) {
        Matcher m = Pattern.compile("(?m)^    public (?:int|long) (\\w+)\\(([^)]*)\\) \\{$").matcher(program);
        int calls = 0;
        while (m.find()) {
            calls++;
            String call = "| `" + m.group(1) + "(" + m.group(2).replaceAll("\\bint ", "") + ")` |";
            if (!readme.contains(call)) {
                refuse("no row " + call);
            }
        }
        if (calls != 29) {
            refuse(calls + " calls were found in the class");
        }
    }

    private static void tests(String readme, Path folder) throws IOException {
        try (Stream<Path> files = Files.list(folder)) {
            List<String> names = files.map(f -> f.getFileName().toString()).filter(f -> f.endsWith("Tests.java")).toList();
            for (String name : names) {
                String test = name.substring(0, name.length() - ".java".length());
                if (!readme.contains("`" + test + "`")) {
                    refuse("nothing of " + test);
                }
            }
        }
        if (!readme.contains("    .ci/run\n")) {
            refuse("nothing of .ci/run");
        }
    }

    public static void main(String[] args) throws IOException, ReflectiveOperationException {
        String readme = Files.readString(Path.of(args[0]));
        example(readme);
        calls(readme, Files.readString(Path.of(args[1])));
        tests(readme, Path.of(args[2]));
        System.out.println("README.md: " + answers + " answers of the example, " + wrong + " not as due");
        if (wrong != 0) {
            System.exit(1);
        }
    }
}
