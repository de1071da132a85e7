import java.io.IOException;
import java.lang.reflect.Method;
import java.lang.reflect.Modifier;
import java.nio.charset.StandardCharsets;
import java.nio.file.Files;
import java.nio.file.Path;
import java.util.HashMap;
import java.util.List;
import java.util.Map;
import java.util.Set;
import java.util.TreeSet;
import java.util.regex.Matcher;
import java.util.regex.Pattern;
import java.util.stream.Collectors;
import java.util.stream.Stream;

/** Each answer in README.md is as the class gives it, each call is shown there, and so is each test. */
public final class ReadmeTest {
    private static final Check CHECK = new Check("ReadmeTest");
    private static final int MOST_CALLS = 512;
    private static final Pattern CALL = Pattern.compile("x\\.(\\w+)\\((.*)\\); +// (-?\\d+)(: .*)?");

    public static void main(String[] args) throws IOException, ReflectiveOperationException {
        Path root = Path.of(args.length > 0 ? args[0] : ".");
        List<String> lines = Files.readAllLines(root.resolve("README.md"), StandardCharsets.UTF_8);
        answers(lines);
        tests(root, lines);
        CHECK.end();
    }

    private static Map<String, Method> methods() {
        Map<String, Method> methods = new HashMap<>();
        for (Method method : NamesInRow.class.getDeclaredMethods()) {
            if (Modifier.isPublic(method.getModifiers())) {
                methods.put(method.getName(), method);
            }
        }
        return methods;
    }

    private static void answers(List<String> lines) throws ReflectiveOperationException {
        Map<String, Method> methods = methods();
        Set<String> shown = new TreeSet<>();
        NamesInRow x = null;
        int calls = 0;
        boolean isCode = false;
        for (String line : lines) {
            if (line.startsWith("```")) {
                isCode = line.equals("```java");
            } else if (line.equals("NamesInRow x = new NamesInRow();")) {
                x = new NamesInRow();
                calls = 0;
            } else if (isCode) {
                Matcher call = CALL.matcher(line);
                boolean isCall = call.matches() && methods.containsKey(call.group(1)) && x != null;
                CHECK.isTrue("a call and what it answers: " + line, isCall);
                if (isCall) {
                    CHECK.due(line, answer(x, methods.get(call.group(1)), call.group(2).split(", ")), Long.parseLong(call.group(3)));
                    shown.add(call.group(1));
                    calls++;
                    CHECK.isTrue("no more calls than an object is used for", calls <= MOST_CALLS);
                }
            }
        }
        CHECK.isTrue("all calls are shown: " + shown, shown.equals(methods.keySet()));
    }

    private static long answer(NamesInRow x, Method method, String[] words) throws ReflectiveOperationException {
        Object[] given = new Object[words.length];
        for (int i = 0; i < words.length; i++) {
            boolean isBoolean = method.getParameterTypes()[i] == boolean.class;
            given[i] = isBoolean ? (Object) Boolean.valueOf(words[i]) : (Object) Integer.valueOf(words[i]);
        }
        return ((Number) method.invoke(x, given)).longValue();
    }

    private static void tests(Path root, List<String> lines) throws IOException {
        CHECK.isTrue("how to run the tests", lines.contains("    .ci/run") && Files.isExecutable(root.resolve(".ci/run")));
        Set<String> told = new TreeSet<>();
        for (String line : lines) {
            if (line.matches("\\| \\w+Test \\|.*")) {
                told.add(line.split("[| ]+")[1]);
            }
        }
        try (Stream<Path> files = Files.list(root.resolve("src/test/java"))) {
            Set<String> there = files.map(file -> file.getFileName().toString()).filter(name -> name.endsWith("Test.java"))
                    .map(name -> name.replace(".java", "")).collect(Collectors.toCollection(TreeSet::new));
            CHECK.isTrue("the tests that are there: " + there + ", told are " + told, told.equals(there));
        }
    }
}
