import java.lang.reflect.Method;
import java.lang.reflect.Modifier;
import java.nio.file.Files;
import java.nio.file.Path;
import java.util.HashMap;
import java.util.Map;
import java.util.regex.Matcher;
import java.util.regex.Pattern;

/** Does what the examples of README.md say, line by line: each answers what stands behind it. */
public final class ReadmeTest {
    private static final Checker C = new Checker("ReadmeTest");
    private static final Pattern MADE = Pattern.compile("KeptWays (\\w+) = new KeptWays\\(\\);");
    private static final Pattern FED = Pattern.compile("Texts\\.feed\\((\\w+), \"(.*)\"\\);");
    private static final Pattern CALLED = Pattern.compile("(\\w+)\\.(\\w+)\\(([^)]*)\\); +// (-?\\w+).*");
    private static final Map<String, KeptWays> OBJECTS = new HashMap<>();

    private ReadmeTest() {
    }

    public static void main(String[] args) throws Exception {
        Path source = Path.of(System.getProperty("keptways.source", "src/main/java/KeptWays.java")).toAbsolutePath();
        String readme = Files.readString(source.resolve("../../../../README.md").normalize());
        boolean isExample = false;
        for (String line : readme.split("\n")) {
            if (line.startsWith("```")) {
                isExample = line.equals("```java");
            } else if (isExample) {
                C.holds(line + " can be read", doLine(line));
            }
        }
        for (Method m : KeptWays.class.getDeclaredMethods()) {
            if (Modifier.isPublic(m.getModifiers())) {
                C.holds("README.md tells of " + m.getName(), readme.contains("`" + m.getName() + "`"));
            }
        }
        C.end();
    }

    private static boolean doLine(String line) throws Exception {
        Matcher made = MADE.matcher(line);
        Matcher fed = FED.matcher(line);
        Matcher called = CALLED.matcher(line);
        if (made.matches()) {
            OBJECTS.put(made.group(1), new KeptWays());
        } else if (fed.matches()) {
            Texts.feed(OBJECTS.get(fed.group(1)), fed.group(2));
        } else if (called.matches()) {
            Object answer = call(OBJECTS.get(called.group(1)), called.group(2), called.group(3));
            C.same(line, String.valueOf(answer), called.group(4));
        } else {
            return false;
        }
        return true;
    }

    private static Object call(KeptWays object, String name, String told) throws Exception {
        String[] texts = told.isEmpty() ? new String[0] : told.split(", ");
        Object[] values = new Object[texts.length];
        Class<?>[] types = new Class<?>[texts.length];
        for (int i = 0; i < texts.length; i++) {
            values[i] = Integer.parseInt(texts[i]);
            types[i] = int.class;
        }
        return KeptWays.class.getMethod(name, types).invoke(object, values);
    }
}
