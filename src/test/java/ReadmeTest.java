import java.io.IOException;
import java.lang.reflect.Method;
import java.lang.reflect.Modifier;
import java.nio.file.DirectoryStream;
import java.nio.file.Files;
import java.nio.file.Path;
import java.util.HashMap;
import java.util.List;
import java.util.Map;
import java.util.Set;
import java.util.TreeSet;
import java.util.regex.Matcher;
import java.util.regex.Pattern;

/** README.md: its example answers as it says, its calls are those of the class, its tests are there. */
public final class ReadmeTest {
    private static final Pattern STATEMENT =
            Pattern.compile("(?:(int|long) \\w+ = )?x\\.(\\w+)\\(([^()]*)\\);\\s+// (-?\\d+): .+");
    private static final Pattern ROW = Pattern.compile("\\| `(\\w+)\\(([^()]*)\\)` \\| .+ \\|");
    private static final Pattern TEST = Pattern.compile("^- `(\\w+)`: ");
    private static final Pattern FILE = Pattern.compile("`((?:src|\\.\\.|\\.ci|[A-Z]+\\.md)[\\w./]*)`");

    private static final Map<String, Method> METHODS = new HashMap<>();
    private static int wrong;

    public static void main(String[] args) throws Exception {
        for (Method method : NoiseShaper.class.getDeclaredMethods()) {
            if (Modifier.isPublic(method.getModifiers())) {
                METHODS.put(method.getName(), method);
            }
        }
        List<String> lines = Files.readAllLines(Path.of("README.md"));
        example(lines);
        calls(lines);
        tests(lines);
        files(lines);
        System.out.println(wrong == 0 ? "README.md holds" : wrong + " faults");
        if (wrong != 0) {
            System.exit(1);
        }
    }

    private static void fault(String text) {
        wrong++;
        System.out.println(text);
    }

    private static void example(List<String> lines) throws Exception {
        int first = lines.indexOf("```java") + 1;
        if (first == 0 || !lines.get(first).equals("NoiseShaper x = new NoiseShaper();")) {
            fault("no example that begins with a new object");
            return;
        }
        NoiseShaper x = new NoiseShaper();
        for (int i = first + 1; !lines.get(i).equals("```"); i++) {
            Matcher statement = STATEMENT.matcher(lines.get(i));
            if (!statement.matches() || !METHODS.containsKey(statement.group(2))) {
                fault("not a call with its answer: " + lines.get(i));
                continue;
            }
            Method method = METHODS.get(statement.group(2));
            long got = ((Number) method.invoke(x, argumentsOf(method, statement.group(3)))).longValue();
            if (got != Long.parseLong(statement.group(4))) {
                fault(lines.get(i) + " answered " + got);
            }
            if ("int".equals(statement.group(1)) && method.getReturnType() != int.class) {
                fault("an int does not hold it: " + lines.get(i));
            }
        }
    }

    private static Object[] argumentsOf(Method method, String text) {
        String[] words = wordsOf(text);
        Object[] arguments = new Object[words.length];
        for (int i = 0; i < words.length; i++) {
            boolean isFlag = method.getParameterTypes()[i] == boolean.class;
            arguments[i] = isFlag ? (Object) Boolean.valueOf(words[i]) : (Object) Integer.valueOf(words[i]);
        }
        return arguments;
    }

    private static String[] wordsOf(String text) {
        return text.isEmpty() ? new String[0] : text.split(", ");
    }

    /** Each public call has one row, with as many parameters as it has. */
    private static void calls(List<String> lines) {
        Set<String> due = new TreeSet<>(METHODS.keySet());
        for (String line : lines) {
            Matcher row = ROW.matcher(line);
            if (!row.matches() || line.startsWith("| `status()` | it means")) {
                continue;
            }
            if (!due.remove(row.group(1))) {
                fault("no such call, or told twice: " + line);
            } else if (METHODS.get(row.group(1)).getParameterCount() != wordsOf(row.group(2)).length) {
                fault("other parameters: " + line);
            }
        }
        for (String call : due) {
            fault("README.md does not tell of " + call);
        }
    }

    private static void tests(List<String> lines) throws IOException {
        Set<String> there = new TreeSet<>();
        try (DirectoryStream<Path> files = Files.newDirectoryStream(Path.of("src/test/java"), "*.java")) {
            for (Path file : files) {
                there.add(file.getFileName().toString().replace(".java", ""));
            }
        }
        Set<String> told = new TreeSet<>();
        for (String line : lines) {
            Matcher test = TEST.matcher(line);
            if (test.find()) {
                told.add(test.group(1));
            }
        }
        if (!told.equals(there)) {
            fault("README.md tells of the tests " + told + ", there are " + there);
        }
    }

    private static void files(List<String> lines) {
        for (String line : lines) {
            Matcher file = FILE.matcher(line);
            while (file.find()) {
                if (!Files.exists(Path.of(file.group(1)))) {
                    fault("README.md names " + file.group(1) + ", which is not there");
                }
            }
        }
    }
}
