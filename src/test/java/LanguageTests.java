import java.io.IOException;
import java.lang.reflect.Field;
import java.lang.reflect.Member;
import java.lang.reflect.Method;
import java.lang.reflect.Modifier;
import java.nio.file.Files;
import java.nio.file.Path;
import java.util.ArrayDeque;
import java.util.Deque;
import java.util.List;
import java.util.Map;
import java.util.Set;
import java.util.TreeMap;
import java.util.TreeSet;
import java.util.regex.Matcher;
import java.util.regex.Pattern;

/** Whether the program keeps to those rules of LANGUAGE.md that its text shows. */
public final class LanguageTests {
    private static final String[] BANNED = {
        "\\b(throw|throws|try|catch|synchronized|assert|import|package|native|volatile|transient|Object)\\b",
        "->", "::", "\\bstatic\\s*\\{", "@", "Exact\\s*\\(", "\\bSystem\\.(?!arraycopy\\b)", "\\bMath\\.(?!abs|min|max)",
        "\\b(float|double|Long|Integer|Thread|Random)\\b", "\"\\s*\\+|\\+\\s*\"", "\\b(equals|hashCode|toString)\\b"
    };
    /** All rows are made with the object, so that no run of calls fills the room. */
    private static final Pattern MAKES = Pattern.compile("\\bnew\\b|\\bclone\\b|\\bArrays\\b|\\bsubstring\\b|\\btoCharArray\\b");
    private static final String[] FACE = {
        "int NONE", "int BAD", "int STATE", "int FULL", "long NO",
        "int set int int int", "int person int int", "int told int int", "int asks int int int",
        "int feed int", "int text", "int force int",
        "int stay int int", "int shake int", "int like int int int", "int odd int int", "long mean int int int",
        "int stays int int int", "int pack int int int", "int fit int int int", "long share int int int int",
        "int go int int int int",
        "int tells int int int int", "int film int int int", "int drawn int int int",
        "long chance int int int int int", "int image", "int back", "int count int",
        "int sheet int int int", "int cell int int int", "int copy int int int int int",
        "int people int int int int", "int taken int int"
    };
    private static final Set<Class<?>> STATIC_TYPES = Set.of(int.class, long.class, boolean.class, char.class, String.class);
    private static final int MOST_LINES = 60, MOST_PARAMETERS = 7, MOST_CLASSES = 12, MOST_FIELDS = 20, MOST_DEEP = 8;

    private static int wrong = 0;

    private static void refuse(int line, String why) {
        wrong++;
        System.out.println("line " + line + ": " + why);
    }

    private static String withoutComments(String source) {
        Matcher m = Pattern.compile("/\\*.*?\\*/|//[^\n]*", Pattern.DOTALL).matcher(source);
        return m.replaceAll(c -> Matcher.quoteReplacement(c.group().replaceAll("[^\n]", " ")));
    }

    private static void words(List<String> lines) {
        for (int i = 0; i < lines.size(); i++) {
            for (String banned : BANNED) {
                if (Pattern.compile(banned).matcher(lines.get(i)).find()) {
                    refuse(i + 1, "«" + banned + "» in " + lines.get(i).trim());
                }
            }
            if (lines.get(i).chars().anyMatch(c -> c > 126 || c < 32)) {
                refuse(i + 1, "a sign outside 32 .. 126");
            }
        }
    }

    private static void methods(List<String> lines) {
        Pattern head = Pattern.compile("^( {4}| {8})(?:(?:public|private|static|final) )*[\\w\\[\\]]+ ?(\\w*)\\([^)]*\\) \\{$");
        Map<String, String> bodies = new TreeMap<>();
        for (int i = 0; i < lines.size(); i++) {
            Matcher m = head.matcher(lines.get(i));
            if (!m.matches()) {
                continue;
            }
            int end = i;
            while (!lines.get(end).equals(m.group(1) + "}")) {
                end++;
            }
            if (end - i + 1 > MOST_LINES) {
                refuse(i + 1, m.group(2) + " has " + (end - i + 1) + " lines");
            }
            String body = String.join("\n", lines.subList(i + 1, end));
            boolean constructor = m.group(2).isEmpty();
            if (!constructor && MAKES.matcher(body).find()) {
                refuse(i + 1, m.group(2) + " makes something");
            }
            bodies.merge(m.group(2), body, String::concat);
        }
        for (String name : bodies.keySet()) {
            goDeeper(bodies, name, new ArrayDeque<>());
        }
    }

    /** Methods of one name count as one, and one that is open already goes no deeper: that is recursion. */
    private static void goDeeper(Map<String, String> bodies, String name, Deque<String> open) {
        open.addLast(name);
        if (open.size() > MOST_DEEP) {
            refuse(0, "too deep: " + open);
        }
        Matcher m = Pattern.compile("\\b(?<!\\bnew |Math\\.)(\\w+)\\(").matcher(bodies.get(name));
        Set<String> calls = new TreeSet<>();
        while (m.find()) {
            calls.add(m.group(1));
        }
        for (String call : calls) {
            if (bodies.containsKey(call) && !open.contains(call)) {
                goDeeper(bodies, call, open);
            }
        }
        open.removeLast();
    }

    private static String told(Member m, Class<?> type, Class<?>[] parameters) {
        StringBuilder b = new StringBuilder();
        b.append(type.getSimpleName()).append(' ').append(m.getName());
        for (Class<?> p : parameters) {
            b.append(' ').append(p.getSimpleName());
        }
        return b.toString();
    }

    private static void face() {
        Set<String> due = new TreeSet<>(List.of(FACE));
        Set<String> found = new TreeSet<>();
        for (Method m : SandInTheShoe.class.getDeclaredMethods()) {
            if (Modifier.isPublic(m.getModifiers())) {
                found.add(told(m, m.getReturnType(), m.getParameterTypes()));
            } else if (!Modifier.isPrivate(m.getModifiers())) {
                refuse(0, m + " is seen from outside");
            } else if (due.stream().anyMatch(f -> f.split(" ")[1].equals(m.getName()))) {
                refuse(0, m + " bears a public name");
            }
        }
        for (Field f : SandInTheShoe.class.getDeclaredFields()) {
            if (Modifier.isPublic(f.getModifiers())) {
                found.add(told(f, f.getType(), new Class<?>[0]));
            } else if (!Modifier.isPrivate(f.getModifiers())) {
                refuse(0, f + " is seen from outside");
            }
        }
        if (!found.equals(due)) {
            refuse(0, "the face is " + found + ", due is " + due);
        }
        if (SandInTheShoe.class.getConstructors().length != 1
            || SandInTheShoe.class.getConstructors()[0].getParameterCount() != 0) {
            refuse(0, "the constructor");
        }
    }

    private static void parts(Class<?> c) {
        int fields = 0;
        for (Field f : c.getDeclaredFields()) {
            if (!Modifier.isStatic(f.getModifiers())) {
                fields++;
            } else if (!Modifier.isFinal(f.getModifiers())) {
                refuse(0, f + " is static and not final");
            } else if (!STATIC_TYPES.contains(f.getType())) {
                refuse(0, f + " is static and of a type that may change");
            }
        }
        if (fields > MOST_FIELDS) {
            refuse(0, c + " has " + fields + " fields");
        }
        for (Method m : c.getDeclaredMethods()) {
            if (m.getParameterCount() > MOST_PARAMETERS) {
                refuse(0, m + " takes too many");
            }
        }
        if (!Modifier.isFinal(c.getModifiers())) {
            refuse(0, c + " is not final");
        }
    }

    private static void classes() {
        Class<?>[] inside = SandInTheShoe.class.getDeclaredClasses();
        if (inside.length >= MOST_CLASSES) {
            refuse(0, inside.length + " classes inside");
        }
        parts(SandInTheShoe.class);
        for (Class<?> c : inside) {
            parts(c);
            if (!Modifier.isStatic(c.getModifiers())) {
                refuse(0, c + " is not static");
            }
        }
    }

    public static void main(String[] args) throws IOException {
        String source = withoutComments(Files.readString(Path.of(args[0])));
        List<String> lines = source.lines().toList();
        words(lines);
        methods(lines);
        face();
        classes();
        System.out.println(lines.size() + " lines looked through, " + wrong + " outside the language");
        if (wrong != 0) {
            System.exit(1);
        }
    }
}
