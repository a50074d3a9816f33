import java.lang.reflect.Constructor;
import java.lang.reflect.Field;
import java.lang.reflect.Method;
import java.lang.reflect.Modifier;
import java.nio.file.Files;
import java.nio.file.Path;
import java.util.ArrayList;
import java.util.Arrays;
import java.util.List;
import java.util.TreeSet;
import java.util.regex.Pattern;

/** The public face of the document, and those rules of LANGUAGE.md that can be seen from outside. */
public final class FaceTest {
    private static final String[] FACE = {
        "int feed(int,int,int,int,int)", "boolean end(int)",
        "int court() IllegalArgumentException UnsupportedOperationException", "int law() IllegalArgumentException",
        "int fault()", "int bird(int,int) IndexOutOfBoundsException NoSuchElementException",
        "int stock(int,int) IndexOutOfBoundsException",
        "int matter(int,int) IndexOutOfBoundsException NoSuchElementException",
        "int wind(int) IndexOutOfBoundsException",
        "int moves(int,int,int,int,boolean) IndexOutOfBoundsException IllegalArgumentException",
        "int call(int,int,int) IndexOutOfBoundsException IllegalStateException", "int hour(int) IllegalArgumentException",
        "int blow(int,int) IndexOutOfBoundsException IllegalArgumentException",
        "int give(int,int,int,int) IndexOutOfBoundsException IllegalArgumentException",
        "int appeal(int) IndexOutOfBoundsException IllegalStateException", "int weeks(int) IllegalArgumentException",
        "int ways(int,int) IndexOutOfBoundsException NoSuchElementException",
        "int lands(int,int) IndexOutOfBoundsException",
        "int good(int,int) IndexOutOfBoundsException IllegalArgumentException",
        "int straight(int,boolean) IndexOutOfBoundsException",
        "int odds(int,int,int) IndexOutOfBoundsException NoSuchElementException",
        "int best(int,int) IndexOutOfBoundsException", "int when(int,int) IndexOutOfBoundsException",
        "int surest(int,boolean,boolean) IndexOutOfBoundsException IllegalStateException",
        "int rests(int,boolean) IndexOutOfBoundsException IllegalStateException",
        "int fair(int) IndexOutOfBoundsException IllegalStateException", "int songs(boolean) IllegalArgumentException",
        "int ask() IllegalArgumentException", "int tell(int,int) IndexOutOfBoundsException IllegalArgumentException",
        "int alike()", "int lasts(int,int,int) IndexOutOfBoundsException IllegalArgumentException", "int rich()",
        "int won(int,boolean) IndexOutOfBoundsException", "int cover()", "int widest(int) IndexOutOfBoundsException",
        "int trial(int,int,int) IndexOutOfBoundsException IllegalArgumentException",
        "int span(int,int,int,boolean) IndexOutOfBoundsException IllegalArgumentException",
        "int led(int,boolean) IndexOutOfBoundsException", "int log(int,int) NoSuchElementException", "int seed(int)",
        "boolean undo()", "void image()", "boolean back()", "int count(int)"};

    private static final String[] BARRED = {"->", "::", "finally", "synchronized", "assert", "Exact", "catch",
        "instanceof", "static {", "double", "float", "import java.io", "System.out", "lambda", "hashCode", "getMessage"};

    /** What rule 4 lists of the library's classes: functions alone, no constants of theirs. */
    private static final Pattern LIBRARY = Pattern.compile(
        "\\b(Integer|Long|Math|Arrays|System|String|StringBuilder|List)\\.(?!(compare|max|min|abs|bitCount|floorDiv"
        + "|floorMod|arraycopy|copyOf|copyOfRange|fill|of)\\()\\w+");

    public static void main(String[] args) throws Exception {
        face();
        source();
        Check.close("FaceTest");
    }

    private static void face() {
        TreeSet<String> got = new TreeSet<>();
        TreeSet<String> names = new TreeSet<>();
        for (Method m : FeatherYard.class.getDeclaredMethods()) {
            if (Modifier.isPrivate(m.getModifiers()) || m.isSynthetic()) {
                continue;
            }
            Check.due("public " + m.getName(), Modifier.PUBLIC, m::getModifiers);
            names.add(m.getName());
            got.add(told(m));
        }
        Check.due("the face", new TreeSet<>(Arrays.asList(FACE)), () -> got);
        for (Class<?> c : withNested()) {
            for (Method m : c.getDeclaredMethods()) {
                if (Modifier.isPrivate(m.getModifiers()) && !m.isSynthetic()) {
                    Check.due("private " + m.getName(), false, () -> String.valueOf(names.contains(m.getName())));
                }
                Check.due(m.getName() + " has at most seven parameters", 1, () -> m.getParameterCount() <= 7);
            }
        }
        for (Field f : FeatherYard.class.getDeclaredFields()) {
            boolean open = !Modifier.isPrivate(f.getModifiers());
            Check.due("field " + f.getName(), open ? "NONE" : f.getName(), f::getName);
        }
        Constructor<?>[] made = FeatherYard.class.getDeclaredConstructors();
        Check.due("constructors", 1, () -> made.length);
        Check.due("final", Modifier.PUBLIC | Modifier.FINAL, () -> FeatherYard.class.getModifiers());
        Check.due("at most twelve classes", 1, () -> withNested().size() <= 12);
    }

    private static List<Class<?>> withNested() {
        List<Class<?>> all = new ArrayList<>(Arrays.asList(FeatherYard.class.getDeclaredClasses()));
        all.add(FeatherYard.class);
        return all;
    }

    private static String told(Method m) {
        StringBuilder b = new StringBuilder(m.getReturnType().getName()).append(' ').append(m.getName()).append('(');
        for (int i = 0; i < m.getParameterCount(); i++) {
            b.append(i == 0 ? "" : ",").append(m.getParameterTypes()[i].getName());
        }
        b.append(')');
        for (Class<?> e : m.getExceptionTypes()) {
            b.append(' ').append(e.getSimpleName());
        }
        return b.toString();
    }

    private static void source() throws Exception {
        Path file = Path.of("src/main/java/FeatherYard.java");
        List<String> lines = Files.readAllLines(file);
        int begin = -1;
        for (int i = 0; i < lines.size(); i++) {
            String line = lines.get(i);
            int at = i;
            for (String word : BARRED) {
                Check.due("line " + (i + 1) + " has " + word, 0, () -> line.contains(word) ? 1 : 0);
            }
            Check.due("line " + (i + 1) + " keeps to the library's functions", 0,
                () -> LIBRARY.matcher(line).find() && !line.startsWith("import ") ? 1 : 0);
            Check.due("line " + (i + 1) + " is at most 120 wide", 1, () -> line.length() <= 120);
            if (line.matches("    (    )?[^ /*].*\\) ?(throws .*)?\\{") || line.matches("            throws .*\\{")) {
                begin = i;
            }
            int from = begin;
            if (begin >= 0 && line.matches("    (    )?\\}")) {
                Check.due("method at line " + (begin + 1) + " is short", 1, () -> at - from < 60);
                begin = -1;
            }
        }
    }
}
