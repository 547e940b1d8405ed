import java.io.IOException;
import java.nio.file.Files;
import java.nio.file.Path;
import java.util.ArrayList;
import java.util.Arrays;
import java.util.List;
import java.util.Set;
import java.util.TreeSet;
import java.util.regex.Matcher;
import java.util.regex.Pattern;

/** What the document has around its promises, set beside the text of the class and of the tests. */
public final class DocumentTests {
    private static final int PROMISES = 30;

    private static int checks = 0;
    private static int wrong = 0;

    private static void check(boolean holds, String what) {
        checks++;
        if (!holds) {
            wrong++;
            System.out.println("DocumentTests: " + what);
        }
    }

    // ---- the public face

    private static List<String> face(String document) {
        Matcher m = Pattern.compile("## The public face\n+```java\n(.*?)```", Pattern.DOTALL).matcher(document);
        return m.find() ? m.group(1).lines().toList() : List.of();
    }

    /** What the class shows, a line each, told as the document tells it. */
    private static Set<String> shown(String program) {
        Set<String> lines = new TreeSet<>();
        program.lines().filter(line -> line.matches(" *public .*")).forEach(line ->
            lines.add(line.startsWith("    public static") || line.startsWith("public") ? line : line.replaceAll(" \\{$", ";")));
        return lines;
    }

    private static void faceIsShown(List<String> face, String program) {
        Set<String> due = new TreeSet<>(face);
        due.remove("}");
        Set<String> shown = shown(program);
        check(due.size() == PROMISES + 3, "the face has " + due.size() + " lines");
        for (String line : due) {
            check(shown.contains(line), "the class doesn't show «" + line.trim() + "»");
        }
        for (String line : shown) {
            check(due.contains(line), "the face doesn't have «" + line.trim() + "»");
        }
    }

    // ---- the rows ahead of the calls

    private static void rowsStandAheadOfCalls(String document, String program) {
        Matcher m = Pattern.compile("Ahead of the calls (.*) the interface says: (---- .*)\\.\n").matcher(document);
        int rows = 0;
        int calls = 0;
        while (m.find()) {
            rows++;
            int at = program.indexOf("\n    // " + m.group(2) + "\n");
            check(at >= 0, "the class has no row «" + m.group(2) + "»");
            int next = program.indexOf("\n    // ----", at + 1);
            Matcher call = Pattern.compile("`(\\w+)`").matcher(m.group(1));
            while (call.find()) {
                calls++;
                Matcher head = Pattern.compile("\n    public \\w+ " + call.group(1) + "\\(").matcher(program);
                boolean found = at >= 0 && head.find(at) && head.start() < next;
                check(found, call.group(1) + " doesn't stand behind «" + m.group(2) + "» in its order");
                at = found ? head.start() + 1 : at;
            }
        }
        check(rows == 6, rows + " rows were found in the document");
        check(calls == PROMISES - 1, calls + " calls were found in the rows");
    }

    // ---- the promises

    private static void promisesAreOfTheFace(String document, List<String> face) {
        Matcher m = Pattern.compile("## Promise (\\d+): (.*)\n\n`([^`]*)`: ").matcher(document);
        int number = 0;
        while (m.find()) {
            number++;
            check(m.group(1).equals(Integer.toString(number)), "promise " + number + " is " + m.group(1));
            check(face.contains("    public " + m.group(3) + ";"), "the face doesn't have «" + m.group(3) + "»");
        }
        check(number == PROMISES, number + " promises were found in the document");
    }

    /** Of the terms and the promises nothing is left but their heads, when all that tests quote is taken away. */
    private static void allIsQuoted(String document, List<String> tests) {
        boolean[] quoted = new boolean[document.length()];
        for (String test : tests) {
            Matcher m = Pattern.compile("\\.sentence\\(\"[^\"]*\", \"([^\"]*)\"\\)").matcher(test);
            while (m.find()) {
                for (int at = document.indexOf(m.group(1)); at >= 0; at = document.indexOf(m.group(1), at + 1)) {
                    Arrays.fill(quoted, at, at + m.group(1).length(), true);
                }
            }
        }
        StringBuilder left = new StringBuilder();
        int begin = document.indexOf("## Terms");
        int end = document.indexOf("## Not promised");
        check(begin >= 0 && end > begin, "the document has no terms");
        for (int i = begin; i >= 0 && i < end; i++) {
            left.append(quoted[i] ? (char) 0 : document.charAt(i));
        }
        String heads = "(?m)^(## .*|```.*|==== \\d|Ahead of the calls .*|`[^`\n]*`:)";
        for (String part : left.toString().replaceAll(heads, "").split("[\0\n]+")) {
            check(!part.matches(".*\\w.*"), "no test quotes «" + part.trim() + "»");
        }
    }

    public static void main(String[] args) throws IOException {
        String document = Files.readString(Path.of(args[0]));
        String program = Files.readString(Path.of(args[1]));
        List<String> tests = new ArrayList<>();
        for (String name : new String[] {"TermsEdgeTests", "PromiseEdgeTests", "ThoughtTests"}) {
            tests.add(Files.readString(Path.of(args[2], name + ".java")));
        }
        List<String> face = face(document);
        faceIsShown(face, program);
        rowsStandAheadOfCalls(document, program);
        promisesAreOfTheFace(document, face);
        allIsQuoted(document, tests);
        System.out.println("DocumentTests: " + checks + " checks, " + wrong + " don't hold");
        if (wrong != 0) {
            System.exit(1);
        }
    }
}
