import java.io.IOException;
import java.lang.reflect.InvocationTargetException;
import java.lang.reflect.Method;
import java.lang.reflect.Modifier;
import java.nio.file.Files;
import java.nio.file.Path;
import java.util.HashMap;
import java.util.List;
import java.util.Map;
import java.util.regex.Matcher;
import java.util.regex.Pattern;
import java.util.stream.Stream;

/** README.md's example answers as it says, and its tables name each call, each constant and each test. */
public final class ReadmeTest {
    /** What the answer is called, the method, its arguments, and the answer that is told. */
    private static final Pattern CALL = Pattern.compile(
            "(?:int (\\w+) = )?yard\\.(\\w+)\\(([^)]*)\\); +// (?:(-?\\d+|[A-Z]+): )?.*");
    private static final int ANSWERS = 32;

    private static final Check CHECK = new Check("ReadmeTest");

    private final ChargeYard yard = new ChargeYard();
    private final Map<String, Integer> names = new HashMap<>();
    private int answers = 0;

    public static void main(String[] args) throws IOException, ReflectiveOperationException {
        List<String> lines = Files.readAllLines(Path.of("README.md"));
        new ReadmeTest().example(lines);
        String text = String.join("\n", lines);
        calls(text);
        constants(text);
        tests(text);
        CHECK.end();
    }

    private void example(List<String> lines) throws ReflectiveOperationException {
        int from = lines.indexOf("```java") + 1;
        int to = lines.indexOf("```");
        CHECK.due("there is an example", from > 0 && to > from, true);
        CHECK.due("its first line", lines.get(from), "ChargeYard yard = new ChargeYard();");
        for (int i = from + 1; i < to; i++) {
            step(lines.get(i));
        }
        CHECK.due("answers that the example tells", answers, ANSWERS);
    }

    private void step(String line) throws ReflectiveOperationException {
        Matcher found = CALL.matcher(line);
        CHECK.due("is a call: " + line, found.matches(), true);
        if (!found.matches()) {
            return;
        }
        Method method = methodNamed(found.group(2));
        Object got = answer(method, found.group(3).split(", *"));
        boolean isTold = found.group(4) != null;
        CHECK.due("tells an answer, if there is one: " + line, isTold, got != null);
        if (isTold && got instanceof Integer number) {
            answers++;
            CHECK.due(line, number, valueOf(found.group(4)));
            if (found.group(1) != null) {
                names.put(found.group(1), number);
            }
        }
    }

    private Object answer(Method method, String[] words) throws ReflectiveOperationException {
        Object[] arguments = new Object[words.length];
        for (int i = 0; i < words.length; i++) {
            boolean isTruth = words[i].equals("true") || words[i].equals("false");
            arguments[i] = isTruth ? (Object) Boolean.valueOf(words[i]) : (Object) valueOf(words[i]);
        }
        try {
            return method.invoke(yard, arguments);
        } catch (InvocationTargetException thrown) {
            return thrown.getCause().getClass().getSimpleName();
        }
    }

    private static Method methodNamed(String name) throws NoSuchMethodException {
        for (Method method : ChargeYard.class.getMethods()) {
            if (method.getName().equals(name)) {
                return method;
            }
        }
        throw new NoSuchMethodException(name);
    }

    private int valueOf(String word) throws ReflectiveOperationException {
        if (names.containsKey(word)) {
            return names.get(word);
        }
        return word.matches("-?\\d+") ? Integer.parseInt(word) : ChargeYard.class.getField(word).getInt(null);
    }

    private static void calls(String text) {
        for (Method method : ChargeYard.class.getDeclaredMethods()) {
            if (Modifier.isPublic(method.getModifiers())) {
                int count = method.getParameterCount();
                String arguments = count == 0 ? "" : "\\w+(, \\w+){" + (count - 1) + "}";
                String row = "(?s).*\n\\| `" + method.getName() + "\\(" + arguments + "\\)` \\|.*";
                CHECK.due("a row for " + method.getName(), text.matches(row), true);
            }
        }
    }

    private static void constants(String text) throws ReflectiveOperationException {
        for (String name : List.of("FAULT", "TAKEN", "CARD", "BOOKED", "AWAY")) {
            int value = ChargeYard.class.getField(name).getInt(null);
            CHECK.due("a row for " + name, text.contains("\n| `" + name + "` | " + value + " |"), true);
        }
    }

    private static void tests(String text) throws IOException {
        try (Stream<Path> files = Files.list(Path.of("src/test/java"))) {
            for (String file : files.map(path -> path.getFileName().toString()).toList()) {
                String name = file.replace(".java", "");
                String sign = name.endsWith("Test") ? "\n| " + name + " |" : name;
                CHECK.due("README.md tells of " + name, text.contains(sign), true);
            }
        }
    }
}
