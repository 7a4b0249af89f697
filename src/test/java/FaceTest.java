import java.lang.reflect.Constructor;
import java.lang.reflect.Field;
import java.lang.reflect.Method;
import java.lang.reflect.Modifier;
import java.util.TreeSet;

/** The class has the document's face and nothing else that can be seen from outside. */
public final class FaceTest {
    private static final String[] METHODS = {
        "boolean put(int,int,long) IndexOutOfBoundsException",
        "int at(int,int) IndexOutOfBoundsException",
        "void hand(int,long) IndexOutOfBoundsException",
        "int made(int)",
        "int places() IllegalStateException",
        "int place(int) IllegalStateException IndexOutOfBoundsException",
        "int level(boolean,long) IllegalStateException",
        "boolean regular(boolean,long) IllegalStateException",
        "int exponent(boolean,long,int) IllegalStateException",
        "int answers()",
        "int answer(int,int) IndexOutOfBoundsException",
        "boolean solves()",
        "void take(int) IndexOutOfBoundsException",
        "int series(long,long,long,long,int) IndexOutOfBoundsException ArithmeticException",
        "void turn()",
        "void move(long)",
        "void clear()",
    };

    public static void main(String[] args) {
        Check check = new Check();
        TreeSet<String> want = new TreeSet<>(java.util.List.of(METHODS));
        TreeSet<String> got = new TreeSet<>();
        TreeSet<String> names = new TreeSet<>();
        for (Method m : RationalOdes.class.getDeclaredMethods()) {
            if (!Modifier.isPrivate(m.getModifiers())) {
                got.add(written(m));
                names.add(m.getName());
            }
        }
        check.due("the methods that can be seen", want, () -> got);
        for (Method m : RationalOdes.class.getDeclaredMethods()) {
            if (Modifier.isPrivate(m.getModifiers())) {
                check.due("private " + m.getName() + " has a public name", false, () -> names.contains(m.getName()));
            }
        }
        for (Field f : RationalOdes.class.getDeclaredFields()) {
            check.due("field " + f.getName() + " is private", true, () -> Modifier.isPrivate(f.getModifiers()));
        }
        Constructor<?>[] made = RationalOdes.class.getDeclaredConstructors();
        check.due("constructors", "1 true", () -> made.length + " " + Modifier.isPublic(made[0].getModifiers()));
        check.due("the class is public and final", true, () -> {
            int m = RationalOdes.class.getModifiers();
            return Modifier.isPublic(m) && Modifier.isFinal(m);
        });
        check.end();
    }

    private static String written(Method m) {
        StringBuilder text = new StringBuilder();
        if (!Modifier.isPublic(m.getModifiers())) {
            text.append("not public ");
        }
        text.append(m.getReturnType().getSimpleName()).append(' ').append(m.getName()).append('(');
        String comma = "";
        for (Class<?> c : m.getParameterTypes()) {
            text.append(comma).append(c.getSimpleName());
            comma = ",";
        }
        text.append(')');
        for (Class<?> c : m.getExceptionTypes()) {
            text.append(' ').append(c.getSimpleName());
        }
        return text.toString();
    }
}
