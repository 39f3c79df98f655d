import java.lang.reflect.Constructor;
import java.lang.reflect.Field;
import java.lang.reflect.Method;
import java.lang.reflect.Modifier;
import java.util.Arrays;
import java.util.List;
import java.util.TreeSet;

/** The class has the document's face and nothing beside it that can be seen from outside. */
public final class FaceTest {
    private static final List<String> FACE = List.of(
        "int put(int, int, long, int)",
        "void define(int, int, int, int)",
        "void refer(int, int, int, int, int)",
        "void imported(int, int, int)",
        "void exported(int, boolean)",
        "int link()",
        "int image(int)",
        "void spoil(int, int)",
        "int seal()",
        "void offer(int, int, int)",
        "int load(int)",
        "int at(int)",
        "int find(int)");

    public static void main(String[] args) {
        Class<?> face = ImageForge.class;
        Expect.that("public and final", Modifier.isPublic(face.getModifiers()) && Modifier.isFinal(face.getModifiers()));
        TreeSet<String> visible = new TreeSet<>();
        for (Method method : face.getDeclaredMethods()) {
            if (!Modifier.isPrivate(method.getModifiers()) && !method.isSynthetic()) {
                Expect.that(method.getName() + " is public", Modifier.isPublic(method.getModifiers()));
                visible.add(signature(method));
            }
        }
        Expect.that("methods " + visible, visible.equals(new TreeSet<>(FACE)));
        for (Field field : face.getDeclaredFields()) {
            Expect.that("field " + field.getName() + " is private", Modifier.isPrivate(field.getModifiers()));
        }
        Constructor<?>[] constructors = face.getDeclaredConstructors();
        Expect.same("constructors", constructors.length, 1);
        Expect.that("constructor is public and takes nothing",
            Modifier.isPublic(constructors[0].getModifiers()) && constructors[0].getParameterCount() == 0);
        Expect.end();
    }

    private static String signature(Method method) {
        String parameters = Arrays.toString(method.getParameterTypes());
        return method.getReturnType() + " " + method.getName() + "("
            + parameters.substring(1, parameters.length() - 1) + ")";
    }
}
