import java.io.IOException;
import java.lang.reflect.Method;
import java.lang.reflect.Modifier;
import java.nio.charset.StandardCharsets;
import java.nio.file.Files;
import java.nio.file.Path;
import java.util.ArrayList;
import java.util.Arrays;
import java.util.HashMap;
import java.util.List;
import java.util.Map;
import java.util.TreeSet;
import java.util.regex.Matcher;
import java.util.regex.Pattern;

/**
 * README.md: its calls, in their order on one new object, have the answers that stand beside them (up
 * to the colon, if there is one), and its tables name every method and every test.
 */
public final class ReadmeTest {
    private static final Pattern CALL = Pattern.compile("x\\.(\\w+)\\((.*)\\); +// (\"[^\"]*\"|[^:]*).*");
    private static final Pattern ROW = Pattern.compile("\\| (.*) \\| .* \\|");
    private static final Map<String, Method> FACE = face();

    public static void main(String[] args) throws IOException {
        // .ci/run names the project's root; by hand the tests are run from it.
        Path root = Path.of(System.getProperty("root", "."));
        List<String> lines = Files.readAllLines(root.resolve("README.md"), StandardCharsets.US_ASCII);
        play(lines);
        tables(lines, root.resolve("src/test/java"));
        Check.end("ReadmeTest");
    }

    private static Map<String, Method> face() {
        Map<String, Method> face = new HashMap<>();
        for (Method method : Quarterpowers.class.getDeclaredMethods()) {
            if (Modifier.isPublic(method.getModifiers())) {
                face.put(method.getName(), method);
            }
        }
        return face;
    }

    private static void play(List<String> lines) {
        Quarterpowers x = new Quarterpowers();
        int calls = 0;
        for (String line : lines) {
            if (line.startsWith("x.")) {
                calls++;
                playCall(x, line);
            }
        }
        Check.so("README.md shows calls", calls > 0);
    }

    private static void playCall(Quarterpowers x, String line) {
        Matcher call = CALL.matcher(line);
        Check.so("a call with its answer: " + line, call.matches());
        if (!call.matches()) {
            return;
        }
        String[] parts = call.group(2).isEmpty() ? new String[0] : call.group(2).split(", ");
        Object[] values = new Object[parts.length];
        for (int i = 0; i < parts.length; i++) {
            values[i] = Integer.valueOf(parts[i]);
        }
        Object told = Check.told(FACE.get(call.group(1)), x, values);
        String due = call.group(3).replace("\"", "").replace("throws ", "throws.");
        Check.same("README.md: " + line, String.valueOf(told), due);
    }

    /** The first column of each table, of the methods and of the tests. */
    private static void tables(List<String> lines, Path tests) throws IOException {
        List<String> named = new ArrayList<>();
        for (String line : lines) {
            Matcher row = ROW.matcher(line);
            if (row.matches()) {
                named.addAll(Arrays.asList(row.group(1).split(", ")));
            }
        }
        named.removeAll(Arrays.asList("methods", "test", "---"));
        List<String> due = new ArrayList<>(FACE.keySet());
        for (String name : tests.toFile().list()) {
            if (name.endsWith("Test.java")) {
                due.add(name.replace(".java", ""));
            }
        }
        Check.same("what README.md names, each once", named.size(), due.size());
        Check.same("what README.md names", new TreeSet<>(named), new TreeSet<>(due));
    }
}
