import java.lang.reflect.Constructor;
import java.lang.reflect.Field;
import java.lang.reflect.Method;
import java.lang.reflect.Modifier;
import java.util.Arrays;
import java.util.Set;
import java.util.TreeSet;

/** The public face: just what the document lists; all else is private, and nothing private bears a name of the face. */
final class FaceTest {
    private static final Set<String> FACE = new TreeSet<>(Arrays.asList(
        "int add(int,int)", "void clear()", "boolean build()", "int run(int)", "int value()", "int fuel()",
        "int set(int,int)", "int local(int) throws java.util.NoSuchElementException", "int put(int,int)",
        "int word(int) throws java.util.NoSuchElementException"));

    private FaceTest() {
    }

    public static void main(String[] args) {
        Class<?> face = RowCode.class;
        Due.yes("the class is public and final",
            Modifier.isPublic(face.getModifiers()) && Modifier.isFinal(face.getModifiers()));
        Set<String> found = new TreeSet<>();
        Set<String> names = new TreeSet<>();
        for (Method method : face.getDeclaredMethods()) {
            if (Modifier.isPublic(method.getModifiers())) {
                found.add(text(method));
                names.add(method.getName());
            }
        }
        Due.yes("the public methods are " + found, found.equals(FACE));
        looksInside(face, names);
        for (Class<?> inside : face.getDeclaredClasses()) {
            Due.yes(inside + " is static and not public",
                Modifier.isStatic(inside.getModifiers()) && !Modifier.isPublic(inside.getModifiers()));
            for (Method method : inside.getDeclaredMethods()) {
                Due.no(method + " is private and bears a name of the face",
                    Modifier.isPrivate(method.getModifiers()) && names.contains(method.getName()));
            }
        }
        Due.finish();
    }

    private static String text(Method method) {
        StringBuilder text = new StringBuilder(method.getReturnType() + " " + method.getName() + "(");
        Class<?>[] parameters = method.getParameterTypes();
        for (int i = 0; i < parameters.length; i++) {
            text.append(i == 0 ? "" : ",").append(parameters[i]);
        }
        text.append(")");
        for (Class<?> thrown : method.getExceptionTypes()) {
            text.append(" throws ").append(thrown.getName());
        }
        return text.toString();
    }

    private static void looksInside(Class<?> face, Set<String> names) {
        for (Method method : face.getDeclaredMethods()) {
            if (!Modifier.isPublic(method.getModifiers()) && !method.isSynthetic()) {
                Due.yes(method + " is private", Modifier.isPrivate(method.getModifiers()));
                Due.no(method + " bears a name of the face", names.contains(method.getName()));
            }
        }
        for (Field field : face.getDeclaredFields()) {
            boolean isNone = field.getName().equals("NONE");
            Due.yes(field + " is as the face has it", isNone ? Modifier.isPublic(field.getModifiers())
                && Modifier.isStatic(field.getModifiers()) && field.getType() == int.class
                : Modifier.isPrivate(field.getModifiers()));
            Due.yes("NONE is final, if it is that", !isNone || Modifier.isFinal(field.getModifiers()));
        }
        Constructor<?>[] constructors = face.getDeclaredConstructors();
        Due.same("constructors", constructors.length, 1);
        Due.yes("the constructor is public and takes nothing",
            Modifier.isPublic(constructors[0].getModifiers()) && constructors[0].getParameterCount() == 0);
    }
}
