import java.lang.reflect.Constructor;
import java.lang.reflect.Field;
import java.lang.reflect.Method;
import java.lang.reflect.Modifier;
import java.util.Arrays;
import java.util.HashSet;
import java.util.NoSuchElementException;
import java.util.Set;
import java.util.TreeSet;

/** The public face: the members of the document, with what they throw, and no other that is not private. */
public final class FaceTest {
    private static final Check CHECK = new Check();
    private static final Class<?> NO_SUCH = NoSuchElementException.class;
    private static final Class<?> ARGUMENT = IllegalArgumentException.class;
    private static final Class<?> STATE = IllegalStateException.class;

    public static void main(String[] args) {
        CHECK.same("class", Modifier.PUBLIC | Modifier.FINAL, FormOffice.class.getModifiers());
        constructors();
        fields();
        methods();
        CHECK.done();
    }

    private static void constructors() {
        Constructor<?>[] all = FormOffice.class.getDeclaredConstructors();
        CHECK.same("constructors", 1, all.length);
        CHECK.same("constructor", "public FormOffice()", all[0].toString());
    }

    private static void fields() {
        for (Field field : FormOffice.class.getDeclaredFields()) {
            CHECK.same(field + " is private", true, Modifier.isPrivate(field.getModifiers()));
            CHECK.same(field + " is no static state", true, !Modifier.isStatic(field.getModifiers())
                    || Modifier.isFinal(field.getModifiers()));
        }
    }

    private static void methods() {
        method(boolean.class, "type", 1);
        method(int.class, "clear", 0);
        method(int.class, "define", 1, NO_SUCH, ARGUMENT);
        method(boolean.class, "input", 1, NO_SUCH);
        method(int.class, "total", 1, NO_SUCH);
        method(int.class, "bracket", 3, NO_SUCH, ARGUMENT, STATE);
        method(int.class, "reset", 2, NO_SUCH, ARGUMENT);
        method(int.class, "order", 1, ARGUMENT, STATE);
        method(int.class, "file", 4, NO_SUCH, ARGUMENT);
        method(long.class, "assess", 2, NO_SUCH, STATE, ArithmeticException.class);
        method(long.class, "value", 3, NO_SUCH, STATE);
        method(double.class, "share", 3, NO_SUCH, STATE);
        method(long.class, "pay", 2, NO_SUCH, ARGUMENT, STATE);
        method(int.class, "interest", 1, ARGUMENT);
        method(int.class, "pass", 1, ARGUMENT, STATE);
        method(long.class, "balance", 1, NO_SUCH);
        method(long.class, "posting", 3, NO_SUCH, ARGUMENT);
        Set<String> open = new TreeSet<>();
        for (Method method : FormOffice.class.getDeclaredMethods()) {
            if (!Modifier.isPrivate(method.getModifiers())) {
                open.add(method.getName());
            }
        }
        CHECK.same("methods that are not private", 17, open.size());
    }

    private static void method(Class<?> answer, String name, int parameters, Class<?>... thrown) {
        Method found = null;
        for (Method method : FormOffice.class.getDeclaredMethods()) {
            if (method.getName().equals(name)) {
                CHECK.same(name + " is there once", true, found == null);
                found = method;
            }
        }
        CHECK.same(name + " is there", true, found != null);
        if (found == null) {
            return;
        }
        Class<?>[] due = new Class<?>[parameters];
        Arrays.fill(due, name.equals("type") ? char.class : int.class);
        CHECK.same(name + " modifiers", Modifier.PUBLIC, found.getModifiers());
        CHECK.same(name + " answers", answer, found.getReturnType());
        CHECK.same(name + " parameters", Arrays.asList(due), Arrays.asList(found.getParameterTypes()));
        CHECK.same(name + " throws", new HashSet<>(Arrays.asList(thrown)),
                new HashSet<>(Arrays.asList(found.getExceptionTypes())));
    }
}
