import java.lang.reflect.Method;
import java.lang.reflect.Modifier;
import java.nio.file.Files;
import java.nio.file.Path;
import java.util.ArrayList;
import java.util.List;
import java.util.Map;
import java.util.TreeMap;
import java.util.TreeSet;
import java.util.regex.Matcher;
import java.util.regex.Pattern;

/** Does the calls of README.md and compares; and holds the class against the face that ../shared/DOC.md writes out. */
public final class ReadmeTest {
    private static final String DOCUMENT = "../shared/DOC.md";
    private static final Map<String, Method> CALLS = new TreeMap<>();
    private static int passed = 0, failed = 0;

    private static void due(String what, String got, String want) {
        if (got.equals(want)) {
            passed++;
        } else {
            failed++;
            System.out.println(what + " answered " + got + ", due is " + want);
        }
    }

    /** The lines between ```java and ``` of a page. */
    private static List<String> code(String page) throws Exception {
        List<String> lines = new ArrayList<>();
        boolean in = false;
        for (String line : Files.readAllLines(Path.of(page))) {
            if (line.startsWith("```")) {
                in = line.equals("```java");
            } else if (in) {
                lines.add(line);
            }
        }
        return lines;
    }

    private static int answer(PieceMirror m, String name, String arguments) throws Exception {
        String[] words = arguments.isEmpty() ? new String[0] : arguments.split(", ");
        Object[] values = new Object[words.length];
        for (int i = 0; i < words.length; i++) {
            values[i] = words[i].equals("true") || words[i].equals("false") ? (Object) Boolean.valueOf(words[i]) : (Object) Integer.valueOf(words[i]);
        }
        return (Integer) CALLS.get(name).invoke(m, values);
    }

    private static String named(int answer) throws Exception {
        for (String name : List.of("UNKNOWN", "OUTSIDE", "STATE", "FULL", "NONE")) {
            if (PieceMirror.class.getField(name).getInt(null) == answer) return name;
        }
        return String.valueOf(answer);
    }

    private static void readme() throws Exception {
        Pattern call = Pattern.compile("m\\.(\\w+)\\(([^)]*)\\); +// (-?\\w+).*");
        TreeSet<String> unused = new TreeSet<>(CALLS.keySet());
        PieceMirror m = null;
        for (String line : code("README.md")) {
            Matcher found = call.matcher(line);
            if (line.equals("PieceMirror m = new PieceMirror();")) {
                m = new PieceMirror();
            } else if (found.matches() && CALLS.containsKey(found.group(1))) {
                unused.remove(found.group(1));
                due("README: " + line, named(answer(m, found.group(1), found.group(2))), found.group(3));
            } else {
                due("README: a line that is no call", line, "");
            }
        }
        due("README: calls that it does not show", unused.toString(), "[]");
    }

    private static String signature(Method m) {
        StringBuilder b = new StringBuilder(m.getReturnType().getSimpleName()).append(' ').append(m.getName()).append('(');
        for (Class<?> c : m.getParameterTypes()) b.append(b.charAt(b.length() - 1) == '(' ? "" : ", ").append(c.getSimpleName());
        return b.append(')').toString();
    }

    /** RulesTest holds the class against a copy of the face: so this may be left out where the document does not lie. */
    private static void face() throws Exception {
        if (!Files.exists(Path.of(DOCUMENT))) {
            System.out.println(DOCUMENT + " is not here: its face was not compared");
            return;
        }
        TreeSet<String> want = new TreeSet<>();
        int constants = 0;
        for (String line : code(DOCUMENT)) {
            Matcher call = Pattern.compile(" *public (int \\w+\\([^)]*\\));").matcher(line);
            if (call.matches()) want.add(call.group(1).replaceAll("(int|boolean) \\w+(?=[,)])", "$1"));
            Matcher constant = Pattern.compile("([A-Z]+) = (-\\d+)").matcher(line);
            while (constant.find()) {
                constants++;
                due(constant.group(1), String.valueOf(PieceMirror.class.getField(constant.group(1)).getInt(null)), constant.group(2));
            }
        }
        TreeSet<String> got = new TreeSet<>();
        for (Method m : CALLS.values()) got.add(signature(m));
        due("the face", got.toString(), want.toString());
        due("how many calls", String.valueOf(want.size()), "42");
        due("how many constants", String.valueOf(PieceMirror.class.getFields().length), String.valueOf(constants));
    }

    public static void main(String[] args) throws Exception {
        for (Method m : PieceMirror.class.getDeclaredMethods()) {
            if (Modifier.isPublic(m.getModifiers())) CALLS.put(m.getName(), m);
        }
        readme();
        face();
        System.out.println(passed + " passed, " + failed + " failed");
        if (failed > 0) System.exit(1);
    }
}
