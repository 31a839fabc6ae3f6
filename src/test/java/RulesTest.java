import java.lang.reflect.Constructor;
import java.lang.reflect.Field;
import java.lang.reflect.Method;
import java.lang.reflect.Modifier;
import java.nio.charset.StandardCharsets;
import java.nio.file.Files;
import java.nio.file.Path;
import java.util.Arrays;
import java.util.HashSet;
import java.util.List;
import java.util.Set;
import java.util.TreeSet;
import java.util.regex.Matcher;
import java.util.regex.Pattern;

/** The face of the document, and what a reader of the source can see of ../shared/LANGUAGE.md; last, how little a run makes. */
public final class RulesTest {
    private static final String[] FACE = {
        "piece()", "put(int,boolean)", "wish(int,int,int,int)", "about(int,int)", "eye(int,int,int,int,int)", "blind(int,boolean)",
        "drift(int,int)", "tells(int)", "moves(boolean)", "unseen()", "needed(int)", "cheapest()", "keep(int)", "sure(int,int,int,int)",
        "without(int)", "read(int,int)", "readAll()", "agree()", "liars()", "liar(int)", "leg(int,int,int,int,int)", "stick(int,int)",
        "bars(int)", "set(int)", "pair(int,int,int,int)", "drop(int)", "reach(int)", "ways()", "lift(int)", "quarrel()",
        "flaw(int,int,int)", "weigh(int,int,int)", "costs(int,int)", "swap()", "hole(int)", "age(int,int)", "loss(int)", "plan(int)",
        "coat(int,int)", "light(int,int,int)", "focus(int,int)", "count(int)"};
    private static final String[] BANNED = {
        "throw", "try", "catch", "finally", "synchronized", "assert", "import", "package", "protected", "->", "::", "hashCode", "toString",
        "Exact", "native", "volatile", "transient", "Thread", "Random", "Integer.MAX_VALUE", "Integer.MIN_VALUE", "Object", "var "};
    private static int passed = 0, failed = 0;

    private static void holds(String what, boolean is) {
        if (is) {
            passed++;
        } else {
            failed++;
            System.out.println("does not hold: " + what);
        }
    }

    private static String signature(Method m) {
        StringBuilder b = new StringBuilder(m.getName()).append('(');
        for (Class<?> c : m.getParameterTypes()) b.append(b.charAt(b.length() - 1) == '(' ? "" : ",").append(c.getSimpleName());
        return b.append(')').toString();
    }

    private static void face() throws Exception {
        Set<String> open = new TreeSet<>();
        Set<String> openNames = new HashSet<>();
        for (Method m : PieceMirror.class.getDeclaredMethods()) {
            if (Modifier.isPublic(m.getModifiers())) {
                open.add(signature(m));
                openNames.add(m.getName());
                holds("int and of the object: " + m, m.getReturnType() == int.class && !Modifier.isStatic(m.getModifiers()));
            }
        }
        holds("the document's calls and no others", open.equals(new TreeSet<>(Arrays.asList(FACE))));
        for (Method m : PieceMirror.class.getDeclaredMethods()) {
            if (!Modifier.isPublic(m.getModifiers())) {
                holds("private: " + m, Modifier.isPrivate(m.getModifiers()));
                holds("a name of its own: " + m, !openNames.contains(m.getName()));
            }
        }
        for (Class<?> c : PieceMirror.class.getDeclaredClasses()) {
            holds("static: " + c, Modifier.isStatic(c.getModifiers()) && !Modifier.isPublic(c.getModifiers()));
            for (Method m : c.getDeclaredMethods()) {
                holds("a name of its own: " + m, !openNames.contains(m.getName()));
                holds("seven parameters at most: " + m, m.getParameterCount() <= 7);
            }
            holds("twenty fields at most: " + c, c.getDeclaredFields().length <= 20);
        }
        holds("twelve classes at most", PieceMirror.class.getDeclaredClasses().length <= 11);
        Constructor<?>[] made = PieceMirror.class.getDeclaredConstructors();
        holds("one public constructor", made.length == 1 && made[0].getParameterCount() == 0 && Modifier.isPublic(made[0].getModifiers()));
        holds("public and final", Modifier.isPublic(PieceMirror.class.getModifiers()) && Modifier.isFinal(PieceMirror.class.getModifiers()));
        constants();
    }

    private static void constants() throws Exception {
        List<String> names = List.of("UNKNOWN", "OUTSIDE", "STATE", "FULL", "NONE");
        int[] values = {-900001, -900002, -900003, -900004, -900009};
        int own = 0;
        for (Field f : PieceMirror.class.getDeclaredFields()) {
            if (Modifier.isPublic(f.getModifiers())) {
                int at = names.indexOf(f.getName());
                holds("a constant of the document: " + f, at >= 0 && f.getInt(null) == values[at] && f.getModifiers() == 25);
            } else {
                holds("private: " + f, Modifier.isPrivate(f.getModifiers()));
                holds("static and final: " + f, !Modifier.isStatic(f.getModifiers()) || Modifier.isFinal(f.getModifiers()));
                own += Modifier.isStatic(f.getModifiers()) ? 0 : 1;
            }
        }
        holds("twenty fields at most", own <= 20);
    }

    private static void source() throws Exception {
        String text = Files.readString(Path.of("src/main/java/PieceMirror.java"), StandardCharsets.ISO_8859_1);
        String code = text.replaceAll("(?s)/\\*.*?\\*/", " ").replaceAll("//[^\n]*", " ");
        for (String word : BANNED) {
            boolean isWord = Character.isLetter(word.charAt(0)) && Character.isLetter(word.charAt(word.length() - 1));
            Pattern p = Pattern.compile(isWord ? "\\b" + Pattern.quote(word) + "\\b" : Pattern.quote(word));
            holds("no " + word, !p.matcher(code).find());
        }
        holds("signs 1 to 127", text.chars().allMatch(c -> c > 0 && c < 128));
        Set<String> library = Set.of("Math.abs", "Math.max", "Math.min", "Math.floorMod", "Integer.bitCount", "System.arraycopy");
        Matcher m = Pattern.compile("\\b(Math|Integer|Long|System|Arrays)\\.\\w+").matcher(code);
        while (m.find()) holds("in the library: " + m.group(), library.contains(m.group()));
        int lines = 0;
        for (String line : text.split("\n")) {
            lines = line.matches(" {4}( {4})?[a-z].*\\) \\{") ? 0 : lines + 1;
            if (line.matches(" {4}( {4})?\\}")) holds("sixty lines at most, before: " + line, lines <= 60);
        }
    }

    /** The dearest run: a full mirror, then calls that search. Objects are made by the calls that add something, and by no others. */
    private static void room() {
        com.sun.management.ThreadMXBean bean = (com.sun.management.ThreadMXBean) java.lang.management.ManagementFactory.getThreadMXBean();
        long id = Thread.currentThread().getId();
        bean.getThreadAllocatedBytes(id);
        long before = bean.getThreadAllocatedBytes(id);
        PieceMirror m = full();
        long made = bean.getThreadAllocatedBytes(id) - before;
        holds("a full mirror is made of some 20 KB: " + made, made < 40_000);
        before = bean.getThreadAllocatedBytes(id);
        int sum = 0;
        for (int i = 0; i < 30; i++) sum += searches(m, i);
        made = bean.getThreadAllocatedBytes(id) - before;
        holds("searches make nothing: " + made + " " + sum, made < 1_000);
    }

    private static PieceMirror full() {
        PieceMirror m = new PieceMirror();
        for (int i = 0; i < 7; i++) m.piece();
        for (int i = 0; i < 24; i++) m.eye(i % 7, (i + 1 + i / 7) % 7, i % 5, i % 3, 1 + i % 6);
        for (int i = 0; i < 21; i++) m.leg(i % 7, i % 4, i % 3, 0, i);
        for (int i = 0; i < 20; i++) m.pair(i % 7, (i + 1) % 7, 2 + i % 3, i % 2);
        return m;
    }

    private static int searches(PieceMirror m, int i) {
        m.readAll();
        m.read(i % 24, 77);
        return m.moves(true) + m.needed(i % 24) + m.cheapest() + m.keep(i) + m.sure(0, 1, 2, 3) + m.without(i % 7) + m.agree() + m.liars() + m.liar(0)
            + m.bars(i % 7) + m.ways() + m.lift(i % 7) + m.quarrel() + m.swap() + m.hole(i % 7) + m.plan(4) + m.coat(4, 1) + m.focus(25, 0) + m.count(4);
    }

    public static void main(String[] args) throws Exception {
        face();
        source();
        room();
        System.out.println(passed + " passed, " + failed + " failed");
        if (failed > 0) System.exit(1);
    }
}
