import java.io.IOException;
import java.lang.reflect.Method;
import java.lang.reflect.Modifier;
import java.nio.file.Files;
import java.nio.file.Path;
import java.util.ArrayList;
import java.util.List;
import java.util.Set;
import java.util.TreeSet;
import java.util.regex.Matcher;
import java.util.regex.Pattern;
import java.util.stream.Stream;

/** README.md: its example is run as it stands there, and it names each call, constant and test. */
public final class ReadmeTest {
    private static final Pattern EXAMPLE = Pattern.compile("(?s)```java\n(.*?)```");
    private static final Pattern MAKES = Pattern.compile("PaidToWhisper x = new PaidToWhisper\\(\\);");
    private static final Pattern WRITES = Pattern.compile("for \\(char c : \"(.*)\"\\.toCharArray\\(\\)\\) x\\.letter\\(c\\);");
    private static final Pattern CALLS = Pattern.compile("x\\.(\\w+)\\((.*?)\\); +// (-?\\d+): .+");
    private static final Pattern ROW = Pattern.compile("(?m)^\\| `(\\w+)\\((.*?)\\)` \\|");
    private static final Pattern CONSTANT = Pattern.compile("(?m)^\\| `([A-Z]+)` \\| (-\\d+) \\|");

    private static int wrong = 0;

    private static void due(String name, Object got, Object want) {
        if (!want.equals(got)) {
            wrong++;
            System.out.println("README.md: " + name + " is " + got + ", due is " + want);
        }
    }

    public static void main(String[] args) throws IOException, ReflectiveOperationException {
        String readme = Files.readString(Path.of("README.md"));
        runExample(readme);
        namesEachCall(readme);
        namesEachConstant(readme);
        namesEachTest(readme);
        System.out.println(wrong == 0 ? "README.md is as due" : wrong + " things in README.md are not as due");
        if (wrong != 0) {
            System.exit(1);
        }
    }

    private static void runExample(String readme) throws ReflectiveOperationException {
        Matcher example = EXAMPLE.matcher(readme);
        due("an example", example.find(), true);
        PaidToWhisper x = null;
        for (String line : example.group(1).split("\n")) {
            if (MAKES.matcher(line).matches()) {
                x = new PaidToWhisper();
                continue;
            }
            Matcher writes = WRITES.matcher(line);
            if (writes.matches()) {
                for (char c : writes.group(1).toCharArray()) {
                    x.letter(c);
                }
                continue;
            }
            Matcher calls = CALLS.matcher(line);
            due("a line that can be run: " + line, calls.matches(), true);
            if (calls.matches()) {
                due(line, Long.parseLong(calls.group(3)), answer(x, calls.group(1), calls.group(2)));
            }
        }
    }

    private static long answer(PaidToWhisper x, String name, String numbers) throws ReflectiveOperationException {
        String[] parts = numbers.isEmpty() ? new String[0] : numbers.split(", ");
        for (Method m : PaidToWhisper.class.getDeclaredMethods()) {
            if (!m.getName().equals(name) || m.getParameterCount() != parts.length) {
                continue;
            }
            Object[] values = new Object[parts.length];
            for (int i = 0; i < parts.length; i++) {
                boolean isTruth = m.getParameterTypes()[i] == boolean.class;
                values[i] = isTruth ? (Object) Boolean.valueOf(parts[i]) : (Object) Integer.valueOf(parts[i]);
            }
            return ((Number) m.invoke(x, values)).longValue();
        }
        throw new NoSuchMethodException(name + "(" + numbers + ")");
    }

    private static void namesEachCall(String readme) {
        Set<String> named = new TreeSet<>();
        Matcher row = ROW.matcher(readme);
        while (row.find()) {
            int parameters = row.group(2).isEmpty() ? 0 : row.group(2).split(", ").length;
            named.add(row.group(1) + "/" + parameters);
        }
        Set<String> face = new TreeSet<>();
        for (Method m : PaidToWhisper.class.getDeclaredMethods()) {
            if (Modifier.isPublic(m.getModifiers())) {
                face.add(m.getName() + "/" + m.getParameterCount());
            }
        }
        due("the calls", named, face);
    }

    private static void namesEachConstant(String readme) {
        List<String> named = new ArrayList<>();
        Matcher row = CONSTANT.matcher(readme);
        while (row.find()) {
            named.add(row.group(1) + " " + row.group(2));
        }
        due("the constants", named, List.of("NONE " + PaidToWhisper.NONE, "UNKNOWN " + PaidToWhisper.UNKNOWN,
            "OUTSIDE " + PaidToWhisper.OUTSIDE, "STATE " + PaidToWhisper.STATE, "FULL " + PaidToWhisper.FULL));
    }

    private static void namesEachTest(String readme) throws IOException {
        try (Stream<Path> tests = Files.list(Path.of("src/test/java"))) {
            tests.map(p -> p.getFileName().toString().replace(".java", "")).sorted()
                .forEach(name -> due("`" + name + "` named", readme.contains("`" + name + "`"), true));
        }
    }
}
