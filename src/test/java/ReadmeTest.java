import java.lang.reflect.Method;
import java.lang.reflect.Modifier;
import java.nio.file.Files;
import java.nio.file.Path;
import java.util.ArrayList;
import java.util.List;
import java.util.Set;
import java.util.TreeSet;
import java.util.regex.Matcher;
import java.util.regex.Pattern;

/** README.md names the calls as the document does, in its order, and its examples answer as it says. */
public final class ReadmeTest {
    private static final Pattern PROMISED = Pattern.compile("(?m)^`((?:int|long) \\w+\\([^)]*\\))`:");
    private static final Pattern NAMED = Pattern.compile("(?m)^\\| `((?:int|long) \\w+\\([^)]*\\))` \\|");
    private static final Pattern EXAMPLE = Pattern.compile("x\\.(\\w+)\\(([^)]*)\\);\\s*// (-?\\d+)(:.*)?");
    private static final Pattern TYPED = Pattern.compile("for \\(char c : \"([^\"]*)\"\\.toCharArray\\(\\)\\) x\\.type\\(c\\);");

    private ReadmeTest() {
    }

    public static void main(String[] args) throws Exception {
        String readme = Files.readString(Path.of("README.md"));
        List<String> promised = all(PROMISED, Files.readString(Path.of("../shared/DOC.md")));
        Due.is("README: how many calls the document promises", promised.size(), 38);
        Due.is("README: are its calls the document's, in its order", all(NAMED, readme).equals(promised) ? 1 : 0, 1);
        Set<String> shown = new TreeSet<>(Set.of("type"));
        examples(readme, shown);
        for (Method m : StringPuppets.class.getDeclaredMethods()) {
            if (Modifier.isPublic(m.getModifiers())) {
                Due.is("README: has an example of " + m.getName(), shown.contains(m.getName()) ? 1 : 0, 1);
            }
        }
        Due.finish();
    }

    private static List<String> all(Pattern pattern, String text) {
        List<String> found = new ArrayList<>();
        Matcher m = pattern.matcher(text);
        while (m.find()) {
            found.add(m.group(1));
        }
        return found;
    }

    private static void examples(String readme, Set<String> shown) throws Exception {
        StringPuppets x = new StringPuppets();
        boolean java = false;
        for (String line : readme.split("\n")) {
            if (line.startsWith("```")) {
                java = line.equals("```java");
            } else if (java && !line.startsWith("StringPuppets x = new")) {
                shown.add(example(x, line));
            }
        }
    }

    /** Makes the calls of one line: the name of the call that it shows. */
    private static String example(StringPuppets x, String line) throws Exception {
        Matcher typed = TYPED.matcher(line);
        if (typed.matches()) {
            for (char c : typed.group(1).toCharArray()) {
                x.type(c);
            }
            return "type";
        }
        Matcher m = EXAMPLE.matcher(line);
        if (!m.matches()) {
            Due.is("README: is an example: " + line, 0, 1);
            return "";
        }
        Due.is("README: " + line, call(x, m.group(1), m.group(2)), Long.parseLong(m.group(3)));
        return m.group(1);
    }

    private static long call(StringPuppets x, String name, String numbers) throws Exception {
        String[] parts = numbers.isEmpty() ? new String[0] : numbers.split(", ");
        Object[] values = new Object[parts.length];
        Class<?>[] types = new Class<?>[parts.length];
        for (int k = 0; k < parts.length; k++) {
            values[k] = Integer.parseInt(parts[k]);
            types[k] = int.class;
        }
        return ((Number) StringPuppets.class.getMethod(name, types).invoke(x, values)).longValue();
    }
}
