import java.io.IOException;
import java.lang.reflect.Constructor;
import java.lang.reflect.Field;
import java.lang.reflect.Method;
import java.lang.reflect.Modifier;
import java.nio.file.Files;
import java.nio.file.Path;
import java.util.ArrayList;
import java.util.List;
import java.util.regex.Matcher;
import java.util.regex.Pattern;

/** Those rules of LANGUAGE.md that a look at the file and its classes can tell, by their numbers. */
public final class LanguageTest {
    private static final Path FILE = Path.of("src/main/java/RationalOdes.java");
    private static final Pattern THROW = Pattern.compile("throw\\b[^;]*;");
    private static final Pattern ALLOWED_THROW = Pattern.compile(
        "throw new (IllegalState|IllegalArgument|IndexOutOfBounds|Arithmetic)Exception\\((\"[^\"]*\")?\\);");
    private static final Pattern LIBRARY = Pattern.compile(
        "\\b(Arrays|Math|System|Integer|Long|String|StringBuilder|List|ArrayList|Objects|Collections)\\b(\\.\\w+)?");
    private static final List<String> ALLOWED_LIBRARY = List.of(
        "Arrays", "Arrays.fill", "Arrays.copyOf", "Arrays.copyOfRange", "System.arraycopy", "Math.max", "Math.min");
    private static final String[] NOT_ALLOWED = {
        "\\bpackage\\b", "->", "::", "\\bfinally\\b", "\\bsynchronized\\b", "\\bassert\\b", "\\bcatch\\b",
        "\\bstatic\\s*\\{", "Exact\\b", "\\bextends\\s+\\w*Exception", "\\bdouble\\b", "\\bfloat\\b", "\\bvar\\b"
    };
    private static final Check CHECK = new Check();

    public static void main(String[] args) throws IOException {
        String file = Files.readString(FILE);
        String code = file.replaceAll("(?s)/\\*.*?\\*/", "").replaceAll("//[^\n]*", "");
        words(code);
        exceptions(code);
        lengths(code);
        for (Class<?> c : classes()) {
            members(c);
        }
        CHECK.due("11: some twelve classes", true, () -> classes().size() <= 12);
        CHECK.end();
    }

    private static List<Class<?>> classes() {
        List<Class<?>> all = new ArrayList<>(List.of(RationalOdes.class.getDeclaredClasses()));
        all.add(RationalOdes.class);
        return all;
    }

    private static void words(String code) {
        for (String word : NOT_ALLOWED) {
            CHECK.due("no " + word, false, () -> Pattern.compile(word).matcher(code).find());
        }
        Matcher library = LIBRARY.matcher(code.replaceAll("import java.util.(Arrays|ArrayList|List);", ""));
        while (library.find()) {
            String used = library.group();
            CHECK.due("4: " + used, true, () -> ALLOWED_LIBRARY.contains(used));
        }
        Matcher imported = Pattern.compile("import [^;]*;").matcher(code);
        while (imported.find()) {
            String used = imported.group();
            CHECK.due("4: " + used, true, () -> used.matches("import java.util.(Arrays|ArrayList|List);"));
        }
    }

    private static void exceptions(String code) {
        Matcher thrown = THROW.matcher(code.replaceAll("throws [^{]*", ""));
        while (thrown.find()) {
            String used = thrown.group();
            CHECK.due("6: " + used, true, () -> ALLOWED_THROW.matcher(used).matches());
        }
    }

    /** A method begins with its head and ends with the first brace that stands as far in. */
    private static void lengths(String code) {
        Matcher method = Pattern.compile("(?ms)^( +)[\\w\\[\\] ]+\\([^;{}]*\\)[^;{}]*\\{\n(.*?)^\\1\\}").matcher(code);
        int found = 0;
        while (method.find()) {
            found++;
            String body = method.group(2);
            CHECK.due("11: a method's length: " + body, true, () -> body.lines().count() <= 60);
        }
        int methods = found;
        CHECK.due("11: methods found", true, () -> methods > 17);
    }

    private static void members(Class<?> c) {
        int fields = 0;
        for (Field f : c.getDeclaredFields()) {
            boolean fixed = Modifier.isStatic(f.getModifiers());
            fields += fixed ? 0 : 1;
            CHECK.due("5: " + f + " is final", true, () -> !fixed || Modifier.isFinal(f.getModifiers()));
        }
        int many = fields;
        CHECK.due("11: some twenty fields in " + c.getName(), true, () -> many <= 20);
        for (Method m : c.getDeclaredMethods()) {
            CHECK.due("11: parameters of " + m.getName(), true, () -> m.getParameterCount() <= 7);
        }
        if (c != RationalOdes.class) {
            CHECK.due("1: " + c.getName(), true,
                () -> Modifier.isStatic(c.getModifiers()) && !Modifier.isPublic(c.getModifiers()));
            for (Constructor<?> made : c.getDeclaredConstructors()) {
                CHECK.due("11: parameters of " + made, true, () -> made.getParameterCount() <= 7);
            }
        }
    }
}
