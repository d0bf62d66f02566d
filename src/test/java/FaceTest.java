import java.lang.reflect.Constructor;
import java.lang.reflect.Field;
import java.lang.reflect.Method;
import java.lang.reflect.Modifier;
import java.util.Arrays;
import java.util.TreeSet;

/** The public face: the signatures of the document's first code block, and nothing beside them. */
public final class FaceTest {
    private static final String[] FACE = {
        "int person(int, boolean) UnsupportedOperationException",
        "int friends(int, int, int) UnsupportedOperationException",
        "int round() UnsupportedOperationException",
        "int fact(int, int) UnsupportedOperationException",
        "int beam(int, int, int) UnsupportedOperationException",
        "int remove(int) UnsupportedOperationException",
        "int habit(int, int) UnsupportedOperationException",
        "int personOf(int, int) IndexOutOfBoundsException IllegalArgumentException",
        "int weight(int, int) IndexOutOfBoundsException",
        "int beamOf(int, int) IndexOutOfBoundsException IllegalArgumentException",
        "int lean(int) IndexOutOfBoundsException",
        "int mean(int) IndexOutOfBoundsException",
        "int meanAgain(int) IndexOutOfBoundsException",
        "int wouldMove(int) IndexOutOfBoundsException",
        "int puller(int) IndexOutOfBoundsException NoSuchElementException",
        "int force(int, int) IndexOutOfBoundsException IllegalArgumentException",
        "int factsFor(int, int) IndexOutOfBoundsException IllegalArgumentException NoSuchElementException",
        "int tiltIn(int, int) IndexOutOfBoundsException IllegalArgumentException",
        "int restsIn() NoSuchElementException",
        "int breaksIn(int) IndexOutOfBoundsException NoSuchElementException",
        "int camp(int) IndexOutOfBoundsException",
        "int camps()",
        "int campsAgain()",
        "int greatest(boolean) NoSuchElementException",
        "int ranked(int, int) IllegalArgumentException NoSuchElementException",
        "int weakest(int) NoSuchElementException",
        "boolean isEven()",
        "int append(char) IllegalStateException",
        "int commands() IllegalArgumentException UnsupportedOperationException",
        "int faultPosition()",
        "int reason(int) IllegalArgumentException NoSuchElementException",
        "int line(int) IndexOutOfBoundsException",
        "int beams()",
        "char character(int) IndexOutOfBoundsException",
        "double meanTilt() ArithmeticException",
        "float plumbShare() ArithmeticException",
        "int account(int) IllegalArgumentException",
        "int undo() IllegalStateException",
        "int save()",
        "int restore() IllegalStateException",
    };

    public static void main(String[] args) {
        Check check = new Check();
        check.about("the face");
        methods(check);
        constructors(check);
        for (Field field : PlumbOpinions.class.getDeclaredFields()) {
            check.same(field.getName() + " is private", true, Modifier.isPrivate(field.getModifiers()));
        }
        for (Class<?> inside : PlumbOpinions.class.getDeclaredClasses()) {
            int shown = inside.getModifiers() & (Modifier.PUBLIC | Modifier.PROTECTED);
            check.same(inside.getSimpleName() + " is private or package-visible", 0, shown);
        }
        check.same("the class is public and final", Modifier.PUBLIC | Modifier.FINAL, PlumbOpinions.class.getModifiers());
        check.close();
    }

    private static void methods(Check check) {
        TreeSet<String> found = new TreeSet<>();
        for (Method method : PlumbOpinions.class.getDeclaredMethods()) {
            if (!Modifier.isPrivate(method.getModifiers()) && !method.isSynthetic()) {
                check.same(method.getName() + " is public", Modifier.PUBLIC, method.getModifiers());
                found.add(signature(method));
            }
        }
        check.same("methods", new TreeSet<>(Arrays.asList(FACE)), found);
    }

    private static String signature(Method method) {
        StringBuilder signature = new StringBuilder(method.getReturnType().getSimpleName());
        signature.append(' ').append(method.getName()).append('(');
        for (Class<?> type : method.getParameterTypes()) {
            signature.append(signature.charAt(signature.length() - 1) == '(' ? "" : ", ").append(type.getSimpleName());
        }
        signature.append(')');
        for (Class<?> exception : method.getExceptionTypes()) {
            signature.append(' ').append(exception.getSimpleName());
        }
        return signature.toString();
    }

    private static void constructors(Check check) {
        Constructor<?>[] all = PlumbOpinions.class.getDeclaredConstructors();
        check.same("constructors", 1, all.length);
        check.same("its parameters", 0, all[0].getParameterCount());
        check.same("it is public", Modifier.PUBLIC, all[0].getModifiers());
    }
}
