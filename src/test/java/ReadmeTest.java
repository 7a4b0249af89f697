import java.io.IOException;
import java.lang.reflect.InvocationTargetException;
import java.lang.reflect.Method;
import java.lang.reflect.Modifier;
import java.nio.file.Files;
import java.nio.file.Path;
import java.util.HashSet;
import java.util.Set;
import java.util.regex.Matcher;
import java.util.regex.Pattern;

/** README.md's example is run line by line, and its table has each call of the face. */
public final class ReadmeTest {
    private static final Pattern EXAMPLE = Pattern.compile("(?s)```java\n(.*?)```");
    private static final Pattern MADE = Pattern.compile("RationalOdes x = new RationalOdes\\((\\d+)\\);");
    private static final Pattern CALL = Pattern.compile("x\\.(\\w+)\\(([^)]*)\\); +// (.+)");
    private static final Pattern ANSWER = Pattern.compile("^(-?\\d+|true|false|\\w+Exception)\\b");
    private static final Check CHECK = new Check();

    public static void main(String[] args) throws IOException {
        String readme = Files.readString(Path.of("README.md"));
        example(readme);
        table(readme);
        CHECK.end();
    }

    private static boolean isSo(String what, boolean so) {
        CHECK.due(what, true, () -> so);
        return so;
    }

    private static void example(String readme) {
        Matcher block = EXAMPLE.matcher(readme);
        if (!isSo("README has an example", block.find())) {
            return;
        }
        String[] lines = block.group(1).split("\n");
        Matcher made = MADE.matcher(lines[0]);
        if (!isSo("the example begins with a new object: " + lines[0], made.matches())) {
            return;
        }
        RationalOdes x = new RationalOdes(Integer.parseInt(made.group(1)));
        Set<String> used = new HashSet<>();
        for (int k = 1; k < lines.length; k++) {
            line(x, lines[k], used);
        }
        for (Method m : face()) {
            CHECK.due("the example uses " + m.getName(), true, () -> used.contains(m.getName()));
        }
    }

    private static void line(RationalOdes x, String line, Set<String> used) {
        Matcher call = CALL.matcher(line);
        if (!isSo("a line can be read: " + line, call.matches() && named(call.group(1)) != null)) {
            return;
        }
        Method method = named(call.group(1));
        used.add(method.getName());
        String got = told(x, method, call.group(2).split(", "));
        Matcher answer = ANSWER.matcher(call.group(3));
        String want = answer.find() ? answer.group() : "null";
        CHECK.due(line, want, () -> got);
    }

    private static String told(RationalOdes x, Method method, String[] written) {
        Class<?>[] types = method.getParameterTypes();
        Object[] given = new Object[types.length];
        for (int k = 0; k < types.length; k++) {
            given[k] = types[k] == boolean.class ? (Object) Boolean.valueOf(written[k])
                : types[k] == long.class ? (Object) Long.valueOf(written[k])
                : (Object) Integer.valueOf(written[k]);
        }
        try {
            return String.valueOf(method.invoke(x, given));
        } catch (InvocationTargetException e) {
            return e.getCause().getClass().getSimpleName();
        } catch (IllegalAccessException e) {
            return "no access";
        }
    }

    private static void table(String readme) {
        for (Method m : face()) {
            Pattern row = Pattern.compile("(?m)^\\| `" + m.getName() + "\\(([^)]*)\\)` \\|[^|]*\\|([^|]*)\\|$");
            Matcher found = row.matcher(readme);
            if (!isSo("the table has a row for " + m.getName(), found.find())) {
                continue;
            }
            String names = found.group(1);
            int count = names.isEmpty() ? 0 : names.split(", ").length;
            CHECK.due("its parameters", m.getParameterCount(), () -> count);
            StringBuilder thrown = new StringBuilder();
            for (Class<?> c : m.getExceptionTypes()) {
                thrown.append(thrown(c)).append(' ');
            }
            CHECK.due("what " + m.getName() + " throws", thrown, () -> words(found.group(2)));
        }
    }

    private static String thrown(Class<?> exception) {
        return exception == IllegalStateException.class ? "state"
            : exception == ArithmeticException.class ? "arithmetic" : "index";
    }

    private static String words(String cell) {
        StringBuilder words = new StringBuilder();
        Matcher word = Pattern.compile("\\b(state|index|arithmetic)\\b").matcher(cell);
        while (word.find()) {
            words.append(word.group()).append(' ');
        }
        return words.toString();
    }

    private static Method named(String name) {
        for (Method m : face()) {
            if (m.getName().equals(name)) {
                return m;
            }
        }
        return null;
    }

    private static Set<Method> face() {
        Set<Method> face = new HashSet<>();
        for (Method m : RationalOdes.class.getDeclaredMethods()) {
            if (Modifier.isPublic(m.getModifiers())) {
                face.add(m);
            }
        }
        return face;
    }
}
