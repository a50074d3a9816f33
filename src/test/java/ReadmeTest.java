import java.lang.reflect.InvocationTargetException;
import java.lang.reflect.Method;
import java.lang.reflect.Modifier;
import java.nio.file.Files;
import java.nio.file.Path;
import java.util.regex.Matcher;
import java.util.regex.Pattern;

/** README.md says how to use the class: its examples are run as they stand there. */
public final class ReadmeTest {
    private static final Path README = Path.of("README.md");
    private static final Path SELF = Path.of("src/test/java/ReadmeTest.java");
    private static final Pattern BLOCK = Pattern.compile("```java\n(.*?)```", Pattern.DOTALL);
    private static final Pattern TELL = Pattern.compile("tell\\(x, \"(.*)\"\\);");
    private static final Pattern CALL = Pattern.compile("x\\.(\\w+)\\((.*)\\);(?: *// (\\S+))?");

    // what stands between here and the next such line is README's first example, as it stands there
    static void tell(FeatherYard x, String text) {
        x.end(0);
        for (int at = 0; at < text.length(); at += 20) {
            int[] n = new int[5];
            for (int i = 0; i < 20 && at + i < text.length(); i++) {
                n[i / 4] |= text.charAt(at + i) << (24 - i % 4 * 8);
            }
            x.feed(n[0], n[1], n[2], n[3], n[4]);
        }
        x.end(text.length());
    }
    // up to here

    public static void main(String[] args) throws Exception {
        String readme = Files.readString(README);
        Matcher block = BLOCK.matcher(readme);
        Check.due("README has a first example", true, () -> String.valueOf(block.find()));
        String helper = block.group(1);
        String self = Files.readString(SELF).replaceAll("(?m)^    ", "");
        Check.due("the first example is the one of this test", true, () -> String.valueOf(self.contains(helper)));
        Check.due("README has a second example", true, () -> String.valueOf(block.find()));
        runs(block.group(1));
        named(readme);
        Check.close("ReadmeTest");
    }

    private static void runs(String example) throws Exception {
        FeatherYard x = new FeatherYard();
        int answers = 0;
        for (String line : example.split("\n")) {
            Matcher told = TELL.matcher(line);
            Matcher call = CALL.matcher(line);
            if (told.matches()) {
                tell(x, told.group(1));
            } else if (call.matches()) {
                String want = call.group(3) == null ? "none" : call.group(3);
                Check.due("README's " + line, want, () -> answer(x, call.group(1), call.group(2)));
                answers++;
            } else {
                Check.due("README's " + line, true,
                    () -> String.valueOf(line.isEmpty() || line.equals("FeatherYard x = new FeatherYard();")));
            }
        }
        int all = answers;
        Check.due("README shows twenty answers or more", true, () -> String.valueOf(all >= 20));
    }

    private static String answer(FeatherYard x, String name, String list) throws Exception {
        String[] parts = list.isEmpty() ? new String[0] : list.split(", ");
        for (Method m : FeatherYard.class.getMethods()) {
            if (m.getDeclaringClass() != FeatherYard.class || !m.getName().equals(name)) {
                continue;
            }
            Object[] values = new Object[parts.length];
            for (int i = 0; i < parts.length; i++) {
                boolean flag = m.getParameterTypes()[i] == boolean.class;
                values[i] = flag ? (Object) Boolean.valueOf(parts[i]) : (Object) Integer.valueOf(parts[i]);
            }
            try {
                Object got = m.invoke(x, values);
                return got == null ? "none" : got.toString();
            } catch (InvocationTargetException e) {
                return "throws." + e.getCause().getClass().getSimpleName();
            }
        }
        return "there is no such call";
    }

    private static void named(String readme) {
        for (Method m : FeatherYard.class.getDeclaredMethods()) {
            if (Modifier.isPublic(m.getModifiers())) {
                Check.due("README names " + m.getName(), true,
                    () -> String.valueOf(readme.contains("`" + m.getName() + "`")));
            }
        }
    }
}
