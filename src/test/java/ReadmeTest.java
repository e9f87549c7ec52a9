import java.io.IOException;
import java.lang.reflect.InvocationTargetException;
import java.lang.reflect.Method;
import java.nio.file.Files;
import java.nio.file.Path;
import java.util.List;
import java.util.Set;
import java.util.TreeSet;
import java.util.regex.Matcher;
import java.util.regex.Pattern;
import java.util.stream.Stream;

/** README.md tells the truth: its examples answer what it says, and it names every call and every test there is. */
public final class ReadmeTest {
    private static final Checks C = new Checks("readme");
    private static final Pattern NEW = Pattern.compile("SumsToOne x = new SumsToOne\\(\\);");
    // A call, and behind it as a comment the number that it answers.
    private static final Pattern CALL = Pattern.compile("x\\.(\\w+)\\(([^)]*)\\); +// (-?\\d+)\\b.*");

    public static void main(String[] args) throws IOException, ReflectiveOperationException {
        List<String> lines = Files.readAllLines(Path.of("README.md"));
        examples(lines);
        String text = String.join("\n", lines);
        everyCallIsNamed(text);
        everyTestIsNamed(text);
        C.end();
    }

    private static void examples(List<String> lines) throws ReflectiveOperationException {
        SumsToOne x = null;
        int calls = 0;
        for (String line : lines) {
            if (NEW.matcher(line).matches()) {
                x = new SumsToOne();
                continue;
            }
            Matcher m = CALL.matcher(line);
            boolean isCall = m.matches();
            C.holds("a line that calls has its answer: " + line, isCall == line.startsWith("x."));
            if (isCall && x != null) {
                C.due(line, answer(x, m.group(1), m.group(2)), Long.parseLong(m.group(3)));
                calls++;
            }
        }
        C.holds("some examples", calls > 10);
    }

    private static long answer(SumsToOne x, String name, String list) throws IllegalAccessException, InvocationTargetException {
        String[] told = list.isEmpty() ? new String[0] : list.split(", ");
        Method method = methodOf(name);
        Class<?>[] types = method.getParameterTypes();
        Object[] values = new Object[told.length];
        for (int i = 0; i < told.length; i++) {
            int number = told[i].startsWith("'") ? told[i].charAt(1) : Integer.parseInt(told[i]);
            if (types[i] == long.class) {
                values[i] = (long) number;
            } else {
                values[i] = number;
            }
        }
        return ((Number) method.invoke(x, values)).longValue();
    }

    private static Method methodOf(String name) {
        for (Method method : SumsToOne.class.getMethods()) {
            if (method.getName().equals(name)) {
                return method;
            }
        }
        throw new IllegalStateException("README.md calls " + name + ", which is none");
    }

    private static void everyCallIsNamed(String text) {
        for (Method method : SumsToOne.class.getMethods()) {
            if (method.getDeclaringClass() == SumsToOne.class) {
                C.holds("names " + method.getName(), text.contains("`" + method.getName() + "`"));
            }
        }
    }

    private static void everyTestIsNamed(String text) throws IOException {
        Set<String> there = new TreeSet<>();
        try (Stream<Path> files = Files.list(Path.of("src/test/java"))) {
            files.forEach(file -> there.add(file.getFileName().toString().replace(".java", "")));
        }
        Set<String> named = new TreeSet<>();
        Matcher m = Pattern.compile("`(\\w+)`").matcher(text);
        while (m.find()) {
            named.add(m.group(1));
        }
        for (String file : there) {
            C.holds("names " + file, named.contains(file));
        }
        for (String name : named) {
            C.holds("there is " + name, !name.endsWith("Test") || there.contains(name));
        }
    }
}
