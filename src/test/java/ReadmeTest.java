import java.io.IOException;
import java.lang.reflect.Method;
import java.lang.reflect.Modifier;
import java.nio.file.Files;
import java.nio.file.Path;
import java.util.List;
import java.util.TreeSet;
import java.util.regex.Matcher;
import java.util.regex.Pattern;
import java.util.stream.Collectors;
import java.util.stream.Stream;

/** README.md tells the truth: its example's answers, the calls and the tests that it names. */
public final class ReadmeTest {
    private static final Pattern ROW = Pattern.compile("machine\\.(\\w+)\\((.*?)\\); +// (-?\\d+)\\b.*");

    public static void main(String[] args) throws ReflectiveOperationException, IOException {
        String readme = Files.readString(Path.of("README.md"));
        TreeSet<String> used = example(readme);
        Check.due("the calls of the example", used.toString(), calls().toString());
        Check.due("the calls that are told", told(readme, "(?m)^\\| `int (\\w+)\\(.*?\\)` \\|").toString(),
                calls().toString());
        Check.due("the tests that are told", told(readme, "(?m)^\\| `(\\w+Test)` \\|").toString(), tests().toString());
        Check.end("ReadmeTest");
    }

    /** Makes the calls of the example, one on each row behind the first one; the answer stands behind //. */
    private static TreeSet<String> example(String readme) throws ReflectiveOperationException {
        Matcher block = Pattern.compile("(?s)```java\n(.*?)```").matcher(readme);
        Check.due("there is an example", block.find() ? 1 : 0, 1);
        List<String> rows = block.group(1).lines().filter(row -> !row.isBlank()).collect(Collectors.toList());
        Check.due("its first row", rows.get(0), "TokenMachines machine = new TokenMachines();");
        TokenMachines machine = new TokenMachines();
        TreeSet<String> used = new TreeSet<>();
        for (String row : rows.subList(1, rows.size())) {
            Matcher parts = ROW.matcher(row);
            Check.due("a call with its answer: " + row, parts.matches() ? 1 : 0, 1);
            used.add(parts.group(1));
            Check.due("README.md: " + row, answer(machine, parts.group(1), parts.group(2)),
                    Long.parseLong(parts.group(3)));
        }
        return used;
    }

    private static int answer(TokenMachines machine, String name, String written) throws ReflectiveOperationException {
        for (Method method : TokenMachines.class.getMethods()) {
            if (method.getName().equals(name)) {
                Class<?>[] kinds = method.getParameterTypes();
                String[] parts = written.isEmpty() ? new String[0] : written.split(", ");
                Object[] numbers = new Object[kinds.length];
                for (int i = 0; i < kinds.length; i++) {
                    numbers[i] = number(kinds[i], parts[i]);
                }
                return (Integer) method.invoke(machine, numbers);
            }
        }
        throw new IllegalArgumentException("no such call: " + name);
    }

    private static Object number(Class<?> kind, String written) {
        if (kind == boolean.class) {
            return Boolean.valueOf(written);
        }
        return kind == long.class ? (Object) Long.decode(written.replace("L", "")) : (Object) Integer.decode(written);
    }

    private static TreeSet<String> calls() {
        TreeSet<String> all = new TreeSet<>();
        for (Method method : TokenMachines.class.getDeclaredMethods()) {
            if (Modifier.isPublic(method.getModifiers())) {
                all.add(method.getName());
            }
        }
        return all;
    }

    private static TreeSet<String> told(String readme, String form) {
        TreeSet<String> all = new TreeSet<>();
        Matcher matcher = Pattern.compile(form).matcher(readme);
        while (matcher.find()) {
            all.add(matcher.group(1));
        }
        return all;
    }

    private static TreeSet<String> tests() throws IOException {
        try (Stream<Path> files = Files.list(Path.of("src/test/java"))) {
            return files.map(file -> file.getFileName().toString()).filter(name -> name.endsWith("Test.java"))
                    .map(name -> name.replace(".java", "")).collect(Collectors.toCollection(TreeSet::new));
        }
    }
}
