import java.io.IOException;
import java.lang.reflect.InvocationTargetException;
import java.lang.reflect.Method;
import java.nio.file.Files;
import java.nio.file.Path;
import java.util.ArrayList;
import java.util.List;
import java.util.Set;
import java.util.TreeSet;
import java.util.regex.Matcher;
import java.util.regex.Pattern;

/** README.md tells what holds: its lines of Java, run one by one, and its table of tests. */
public final class ReadmeTest {
    private static final Check CHECK = new Check();
    private static final Pattern CALL = Pattern.compile("x\\.(\\w+)\\(([^)]*)\\); *// (-?\\d+|\\w+Exception)\\b(.*)");

    public static void main(String[] args) throws IOException, IllegalAccessException {
        List<String> lines = Files.readAllLines(Path.of("README.md"));
        runExamples(lines);
        everyTestIsNamed(lines);
        CHECK.end("ReadmeTest");
    }

    private static void runExamples(List<String> lines) throws IllegalAccessException {
        Set<String> shown = new TreeSet<>();
        DueQueue x = null;
        boolean inside = false;
        for (String line : lines) {
            if (line.startsWith("```")) {
                inside = line.equals("```java");
            } else if (inside && line.equals("DueQueue x = new DueQueue();")) {
                x = new DueQueue();
            } else if (inside) {
                Matcher call = CALL.matcher(line);
                CHECK.same("a call with its answer: " + line, "true", Boolean.toString(call.matches()));
                if (call.matches()) {
                    shown.add(call.group(1));
                    CHECK.same(line, call.group(3), answer(x, call.group(1), call.group(2)));
                    textIsTold(call);
                }
            }
        }
        CHECK.same("every call is shown", allCalls().toString(), shown.toString());
    }

    private static String answer(DueQueue x, String name, String written) throws IllegalAccessException {
        List<Long> numbers = new ArrayList<>();
        for (String number : written.isEmpty() ? new String[0] : written.split(", *")) {
            numbers.add(Long.decode(number));
        }
        Method method = method(name, numbers.size());
        Object[] arguments = new Object[numbers.size()];
        for (int i = 0; i < arguments.length; i++) {
            boolean isLong = method.getParameterTypes()[i] == long.class;
            arguments[i] = isLong ? (Object) numbers.get(i) : (Object) numbers.get(i).intValue();
        }
        try {
            return method.invoke(x, arguments).toString();
        } catch (InvocationTargetException e) {
            return e.getCause().getClass().getSimpleName();
        }
    }

    /** The text behind a feed() is the one whose bytes stand in it, filled up with blanks. */
    private static void textIsTold(Matcher call) {
        if (!call.group(1).equals("feed")) {
            return;
        }
        StringBuilder fed = new StringBuilder();
        for (String number : call.group(2).split(", *")) {
            for (int shift = 24; shift >= 0; shift -= 8) {
                fed.append((char) (Long.decode(number) >> shift & 255));
            }
        }
        CHECK.same("the bytes of " + call.group(0), ": \"" + fed.toString().stripTrailing() + "\"", call.group(4));
    }

    private static Method method(String name, int parameters) {
        for (Method method : DueQueue.class.getMethods()) {
            if (method.getName().equals(name) && method.getParameterCount() == parameters) {
                return method;
            }
        }
        throw new AssertionError("no method " + name + " with " + parameters + " parameters");
    }

    private static Set<String> allCalls() {
        Set<String> names = new TreeSet<>();
        for (Method method : DueQueue.class.getDeclaredMethods()) {
            if (java.lang.reflect.Modifier.isPublic(method.getModifiers())) {
                names.add(method.getName());
            }
        }
        return names;
    }

    private static void everyTestIsNamed(List<String> lines) throws IOException {
        Set<String> named = new TreeSet<>();
        for (String line : lines) {
            if (line.matches("\\| `\\w+Test` \\|.*")) {
                named.add(line.substring(3, line.indexOf('`', 3)));
            }
        }
        Set<String> there = new TreeSet<>();
        try (var files = Files.list(Path.of("src/test/java"))) {
            files.map(file -> file.getFileName().toString()).filter(name -> name.endsWith("Test.java"))
                    .forEach(name -> there.add(name.replace(".java", "")));
        }
        CHECK.same("the table names the tests", there.toString(), named.toString());
    }
}
