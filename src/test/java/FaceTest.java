import java.lang.reflect.Field;
import java.lang.reflect.Method;
import java.lang.reflect.Modifier;
import java.util.Arrays;
import java.util.Set;
import java.util.TreeSet;

/** The public face: just what the document shows, with its throws, and nothing else to be seen. */
final class FaceTest {
    private static final Set<String> FACE = new TreeSet<>(Arrays.asList(
            "int put(int,int,long,int) IllegalArgumentException IndexOutOfBoundsException",
            "int delete(int,int,int) IllegalArgumentException IndexOutOfBoundsException",
            "long get(int,int) IllegalArgumentException UnsupportedOperationException",
            "int stamp(int,int) IllegalArgumentException",
            "long part(int,int,int,int) IllegalArgumentException",
            "int at(int,int) IllegalArgumentException IndexOutOfBoundsException",
            "int differ(int,int) IllegalArgumentException",
            "int tables()"));

    public static void main(String[] args) {
        Class<?> face = StampTables.class;
        Check.dueTrue("the class is public and final",
                Modifier.isPublic(face.getModifiers()) && Modifier.isFinal(face.getModifiers()));
        Check.dueTrue("one constructor", face.getDeclaredConstructors().length == 1);
        Check.dueTrue("a public constructor", face.getConstructors().length == 1);
        methodsAreTheFace(face);
        fieldsArePrivate(face);
        Check.end();
    }

    private static void methodsAreTheFace(Class<?> face) {
        Set<String> seen = new TreeSet<>();
        for (Method method : face.getDeclaredMethods()) {
            if (!Modifier.isPrivate(method.getModifiers())) {
                Check.dueTrue(method.getName() + " is public", Modifier.isPublic(method.getModifiers()));
                seen.add(written(method));
            }
        }
        Check.dueTrue("the methods " + seen + " are " + FACE, seen.equals(FACE));
    }

    private static void fieldsArePrivate(Class<?> face) {
        for (Field field : face.getDeclaredFields()) {
            Check.dueTrue(field.getName() + " is private", Modifier.isPrivate(field.getModifiers()));
            Check.dueTrue(field.getName() + " is no state of all objects",
                    !Modifier.isStatic(field.getModifiers()) || Modifier.isFinal(field.getModifiers()));
        }
    }

    private static String written(Method method) {
        StringBuilder text = new StringBuilder();
        text.append(method.getReturnType()).append(' ').append(method.getName()).append('(');
        Class<?>[] parameters = method.getParameterTypes();
        for (int i = 0; i < parameters.length; i++) {
            text.append(i == 0 ? "" : ",").append(parameters[i]);
        }
        text.append(')');
        for (Class<?> thrown : method.getExceptionTypes()) {
            text.append(' ').append(thrown.getSimpleName());
        }
        return text.toString();
    }
}
