import java.lang.reflect.Field;
import java.lang.reflect.Method;
import java.lang.reflect.Modifier;
import java.util.ArrayList;
import java.util.Arrays;
import java.util.List;
import java.util.Set;
import java.util.TreeSet;

/** The public face, and rule 1 of LANGUAGE.md: nothing beside it can be seen from outside. */
public final class FaceTest {
    private static final String[] FACE = {
        "void create(int,int) IllegalArgumentException IllegalStateException",
        "int type(int) IllegalArgumentException IllegalStateException",
        "void where() IllegalArgumentException",
        "int setting() IllegalArgumentException",
        "int clear()",
        "int errorAt()",
        "int begin() IllegalStateException",
        "void commit(int) NoSuchElementException",
        "int abort(int) NoSuchElementException",
        "int insert(int,int,int,int,int,int) NoSuchElementException IllegalStateException"
            + " UnsupportedOperationException",
        "int select(int,int) NoSuchElementException IllegalStateException ArithmeticException",
        "int update(int,int) NoSuchElementException IllegalArgumentException IllegalStateException"
            + " ArithmeticException UnsupportedOperationException",
        "int delete(int,int) NoSuchElementException IllegalStateException ArithmeticException"
            + " UnsupportedOperationException",
        "int result(int,int) NoSuchElementException IndexOutOfBoundsException",
        "double mean(int) IndexOutOfBoundsException ArithmeticException",
        "int vacuum()",
        "int versions(int,int) NoSuchElementException",
        "int count(int)",
    };

    public static void main(String[] args) {
        methodsAreTheDocuments();
        nothingElseIsSeen();
        classesInsideAreHidden();
        Due.finish();
    }

    private static void methodsAreTheDocuments() {
        Set<String> seen = new TreeSet<>();
        for (Method method : VersionedTables.class.getDeclaredMethods()) {
            if (!Modifier.isPrivate(method.getModifiers())) {
                seen.add(told(method));
            }
        }
        Set<String> due = new TreeSet<>(Arrays.asList(FACE));
        Due.holds("the methods seen are " + seen + ", due are " + due + ": the same", seen.equals(due));
    }

    private static String told(Method method) {
        List<String> parameters = new ArrayList<>();
        for (Class<?> parameter : method.getParameterTypes()) {
            parameters.add(parameter.getSimpleName());
        }
        StringBuilder text = new StringBuilder(method.getReturnType().getSimpleName());
        text.append(' ').append(method.getName()).append('(').append(String.join(",", parameters)).append(')');
        for (Class<?> thrown : method.getExceptionTypes()) {
            text.append(' ').append(thrown.getSimpleName());
        }
        return text.toString();
    }

    private static void nothingElseIsSeen() {
        Class<?> face = VersionedTables.class;
        Due.holds("the class is public", Modifier.isPublic(face.getModifiers()));
        Due.holds("the class is final", Modifier.isFinal(face.getModifiers()));
        Due.answer("public constructors", face.getConstructors().length, 1);
        Due.answer("all constructors", face.getDeclaredConstructors().length, 1);
        for (Field field : face.getDeclaredFields()) {
            Due.holds("the field " + field.getName() + " is private", Modifier.isPrivate(field.getModifiers()));
        }
    }

    private static void classesInsideAreHidden() {
        for (Class<?> inside : VersionedTables.class.getDeclaredClasses()) {
            int modifiers = inside.getModifiers();
            Due.holds(inside.getName() + " is static", Modifier.isStatic(modifiers));
            Due.holds(inside.getName() + " is hidden",
                !Modifier.isPublic(modifiers) && !Modifier.isProtected(modifiers));
        }
    }
}
