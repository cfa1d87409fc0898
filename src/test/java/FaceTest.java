import java.lang.reflect.Constructor;
import java.lang.reflect.Field;
import java.lang.reflect.Method;
import java.lang.reflect.Modifier;
import java.util.Arrays;
import java.util.Set;
import java.util.TreeSet;

/** The document's face, and rule 1 of the language: nothing else is to be seen. */
public final class FaceTest {
    private static final String[] FACE = {
        "boolean layout(int)", "boolean field(int, int, int, int)", "boolean head(int, int, int, int)",
        "boolean code(int, int, int, int)", "boolean drop()", "int commit()", "int waiting()", "int restricted()",
        "int applied()", "int moved()", "boolean start(int)", "int run(int)", "int status()", "int result()",
        "int depth()", "int frame(int)", "int objects()", "int output(int)", "int outputs()", "int shape(int, int)",
    };

    public static void main(String[] args) {
        Due due = new Due();
        Class<?> type = PatchedMachine.class;
        due.is("public", true, Modifier.isPublic(type.getModifiers()));
        due.is("final", true, Modifier.isFinal(type.getModifiers()));
        Set<String> seen = new TreeSet<>();
        Set<String> names = new TreeSet<>();
        for (Method method : type.getDeclaredMethods()) {
            if (!Modifier.isPrivate(method.getModifiers())) {
                due.is(method + " is public", true, Modifier.isPublic(method.getModifiers()));
                seen.add(signature(method));
                names.add(method.getName());
            }
        }
        due.is("methods " + seen, true, seen.equals(new TreeSet<>(Arrays.asList(FACE))));
        Constructor<?>[] constructors = type.getDeclaredConstructors();
        due.is("constructors", 1, constructors.length);
        due.is("its parameters", 0, constructors[0].getParameterCount());
        due.is("it is public", true, Modifier.isPublic(constructors[0].getModifiers()));
        privateRest(due, type, names);
        for (Class<?> inside : type.getDeclaredClasses()) {
            due.is(inside + " is static", true, Modifier.isStatic(inside.getModifiers()));
            privateRest(due, inside, names);
        }
        due.end();
    }

    private static String signature(Method method) {
        StringBuilder text = new StringBuilder(method.getReturnType() + " " + method.getName() + "(");
        Class<?>[] parameters = method.getParameterTypes();
        for (int i = 0; i < parameters.length; i++) {
            text.append(i > 0 ? ", " : "").append(parameters[i]);
        }
        return text.append(")").toString();
    }

    private static void privateRest(Due due, Class<?> type, Set<String> names) {
        for (Field field : type.getDeclaredFields()) {
            due.is(field + " is private", true, Modifier.isPrivate(field.getModifiers()));
            boolean isStatic = Modifier.isStatic(field.getModifiers());
            due.is(field + " is final if static", true, !isStatic || Modifier.isFinal(field.getModifiers()));
        }
        for (Method method : type.getDeclaredMethods()) {
            boolean isPrivate = Modifier.isPrivate(method.getModifiers());
            due.is(method + " has a name of its own", false, isPrivate && names.contains(method.getName()));
            due.is(method + " has at most seven parameters", true, method.getParameterCount() <= 7);
        }
    }
}
