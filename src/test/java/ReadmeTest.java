import java.io.IOException;
import java.lang.reflect.Method;
import java.nio.charset.StandardCharsets;
import java.nio.file.Files;
import java.nio.file.Path;
import java.util.List;
import java.util.Map;
import java.util.Set;
import java.util.TreeMap;
import java.util.TreeSet;
import java.util.regex.Matcher;
import java.util.regex.Pattern;
import java.util.stream.Stream;

/** What README.md says holds: the run that it shows, and the files it names. Run from the project's folder. */
public final class ReadmeTest {
    private static final Path README = Path.of("README.md");
    private static final Path TESTS = Path.of("src", "test", "java");
    private static final String MAKING = "TornLayers x = new TornLayers();";
    private static final Pattern CALL = Pattern.compile("x\\.(\\w+)\\(([^)]*)\\);\\s+// (-?\\d+): \\S.*");
    private static final Pattern FILE = Pattern.compile("`([\\w./]+/[\\w./]+)`");

    private final Due due = new Due();
    private final Map<String, Method> face = new TreeMap<>();
    private final Set<String> shown = new TreeSet<>();
    private TornLayers x = null;
    private int calls = 0;

    private ReadmeTest() {
        for (Method method : TornLayers.class.getDeclaredMethods()) {
            if (java.lang.reflect.Modifier.isPublic(method.getModifiers())) {
                face.put(method.getName(), method);
            }
        }
    }

    public static void main(String[] args) throws IOException, ReflectiveOperationException {
        ReadmeTest test = new ReadmeTest();
        List<String> lines = Files.readAllLines(README, StandardCharsets.UTF_8);
        test.runShown(lines);
        test.filesNamed(lines);
        test.due.end();
    }

    private void runShown(List<String> lines) throws ReflectiveOperationException {
        boolean inside = false;
        for (String line : lines) {
            if (line.startsWith("```")) {
                inside = line.equals("```java");
            } else if (inside) {
                doShown(line);
            }
        }
        for (String name : face.keySet()) {
            isTrue("README.md shows " + name, shown.contains(name));
        }
        isTrue("README.md shows a run of 512 calls at most", calls <= 512);
    }

    private void doShown(String line) throws ReflectiveOperationException {
        if (line.equals(MAKING)) {
            isTrue("README.md makes one object", x == null);
            x = new TornLayers();
            return;
        }
        Matcher call = CALL.matcher(line);
        boolean told = call.matches() && x != null && face.containsKey(call.group(1));
        isTrue("a call of the face with its answer: " + line, told);
        if (told) {
            Method method = face.get(call.group(1));
            Number got = (Number) method.invoke(x, arguments(method, call.group(2)));
            due.is("README.md: " + line, got.longValue(), Long.parseLong(call.group(3)));
            shown.add(method.getName());
            calls++;
        }
    }

    private static Object[] arguments(Method method, String told) {
        Class<?>[] types = method.getParameterTypes();
        String[] words = told.isEmpty() ? new String[0] : told.split(", ");
        Object[] numbers = new Object[words.length];
        for (int i = 0; i < words.length; i++) {
            long number = number(words[i]);
            boolean wide = i < types.length && types[i] == long.class;
            if (wide) {
                numbers[i] = number;
            } else {
                numbers[i] = Math.toIntExact(number);
            }
        }
        return numbers;
    }

    private static long number(String word) {
        if (word.equals("TornLayers.NONE")) {
            return TornLayers.NONE;
        }
        return Long.decode(word.endsWith("L") ? word.substring(0, word.length() - 1) : word);
    }

    private void filesNamed(List<String> lines) throws IOException {
        Set<String> named = new TreeSet<>();
        Matcher file = FILE.matcher(String.join("\n", lines));
        while (file.find()) {
            named.add(file.group(1));
            isTrue("README.md names " + file.group(1) + ", which is there", Files.exists(Path.of(file.group(1))));
        }
        try (Stream<Path> files = Files.list(TESTS)) {
            files.filter(f -> f.toString().endsWith("Test.java")).sorted().forEach(
                    f -> isTrue("README.md names " + f, named.contains(f.toString())));
        }
        isTrue("README.md names .ci/run", named.contains(".ci/run"));
        isTrue(".ci/run can be run", Files.isExecutable(Path.of(".ci", "run")));
    }

    private void isTrue(String what, boolean holds) {
        due.is(what, holds ? 1 : 0, 1);
    }
}
