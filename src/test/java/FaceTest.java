import java.lang.reflect.Constructor;
import java.lang.reflect.Field;
import java.lang.reflect.Method;
import java.lang.reflect.Modifier;
import java.util.TreeSet;

/** The public face: the signatures that the document shows, and nothing beside them. */
public final class FaceTest {
    public static void main(String[] args) {
        Check check = new Check();
        check.about("the face");
        methods(check);
        constructors(check);
        for (Field field : PlumbOpinions.class.getDeclaredFields()) {
            check.same(field.getName() + " is private", true, Modifier.isPrivate(field.getModifiers()));
        }
        for (Class<?> inside : PlumbOpinions.class.getDeclaredClasses()) {
            int shown = inside.getModifiers() & (Modifier.PUBLIC | Modifier.PROTECTED);
            check.same(inside.getSimpleName() + " is private or package-visible", 0, shown);
        }
        check.same("the class is public and final", Modifier.PUBLIC | Modifier.FINAL, PlumbOpinions.class.getModifiers());
        check.close();
    }

    private static void methods(Check check) {
        TreeSet<String> found = new TreeSet<>();
        for (Method method : PlumbOpinions.class.getDeclaredMethods()) {
            if (!Modifier.isPrivate(method.getModifiers()) && !method.isSynthetic()) {
                check.same(method.getName() + " is public", Modifier.PUBLIC, method.getModifiers());
                found.add(signature(method));
            }
        }
        check.same("how many methods the document shows", 40, Document.methods().size());
        check.same("methods", new TreeSet<>(Document.methods()), found);
    }

    private static String signature(Method method) {
        StringBuilder signature = new StringBuilder(method.getReturnType().getSimpleName());
        signature.append(' ').append(method.getName()).append('(');
        for (Class<?> type : method.getParameterTypes()) {
            signature.append(signature.charAt(signature.length() - 1) == '(' ? "" : ", ").append(type.getSimpleName());
        }
        signature.append(')');
        for (Class<?> exception : method.getExceptionTypes()) {
            signature.append(' ').append(exception.getSimpleName());
        }
        return signature.toString();
    }

    private static void constructors(Check check) {
        Constructor<?>[] all = PlumbOpinions.class.getDeclaredConstructors();
        check.same("constructors", 1, all.length);
        check.same("its parameters", 0, all[0].getParameterCount());
        check.same("it is public", Modifier.PUBLIC, all[0].getModifiers());
    }
}
