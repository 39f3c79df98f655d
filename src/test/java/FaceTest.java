import java.lang.reflect.Constructor;
import java.lang.reflect.Field;
import java.lang.reflect.Method;
import java.lang.reflect.Modifier;
import java.util.ArrayList;
import java.util.Arrays;
import java.util.List;
import java.util.TreeSet;

/** The class has the document's face and nothing beside it that can be seen from outside. */
public final class FaceTest {
    private static final List<String> FACE = List.of(
        "int put(int, int, long, int) throws IllegalArgumentException, IllegalStateException",
        "void define(int, int, int, int) throws IllegalArgumentException, IllegalStateException",
        "void refer(int, int, int, int, int) throws IllegalArgumentException, IllegalStateException",
        "void imported(int, int, int) throws IllegalArgumentException",
        "void exported(int, boolean) throws IllegalArgumentException",
        "int link() throws IllegalStateException, NoSuchElementException",
        "int image(int) throws NoSuchElementException",
        "void spoil(int, int) throws NoSuchElementException",
        "int seal() throws IllegalStateException",
        "void offer(int, int, int) throws IllegalArgumentException",
        "int load(int) throws IllegalArgumentException, IllegalStateException",
        "int at(int)",
        "int find(int)");

    public static void main(String[] args) {
        Class<?> face = ImageForge.class;
        Expect.that("public and final", Modifier.isPublic(face.getModifiers()) && Modifier.isFinal(face.getModifiers()));
        TreeSet<String> visible = new TreeSet<>();
        for (Method method : face.getDeclaredMethods()) {
            if (!Modifier.isPrivate(method.getModifiers()) && !method.isSynthetic()) {
                Expect.that(method.getName() + " is public", Modifier.isPublic(method.getModifiers()));
                visible.add(signature(method));
            }
        }
        Expect.that("methods " + visible, visible.equals(new TreeSet<>(FACE)));
        for (Field field : face.getDeclaredFields()) {
            Expect.that("field " + field.getName() + " is private", Modifier.isPrivate(field.getModifiers()));
        }
        Constructor<?>[] constructors = face.getDeclaredConstructors();
        Expect.same("constructors", constructors.length, 1);
        Expect.that("constructor is public and takes nothing",
            Modifier.isPublic(constructors[0].getModifiers()) && constructors[0].getParameterCount() == 0);
        for (Class<?> inside : face.getDeclaredClasses()) {
            insideIsHidden(inside);
        }
        noPrivateMethodBearsAPublicName(face);
        Expect.end();
    }

    private static void insideIsHidden(Class<?> inside) {
        int modifiers = inside.getModifiers();
        Expect.that(inside.getName() + " is private or package-visible, and static",
            !Modifier.isPublic(modifiers) && !Modifier.isProtected(modifiers) && Modifier.isStatic(modifiers));
    }

    private static void noPrivateMethodBearsAPublicName(Class<?> face) {
        TreeSet<String> names = new TreeSet<>();
        for (Method method : face.getMethods()) {
            names.add(method.getName());
        }
        ArrayList<Class<?>> classes = new ArrayList<>(List.of(face.getDeclaredClasses()));
        classes.add(face);
        for (Class<?> each : classes) {
            for (Method method : each.getDeclaredMethods()) {
                if (Modifier.isPrivate(method.getModifiers())) {
                    Expect.that(method + " bears a name of its own", !names.contains(method.getName()));
                }
            }
        }
    }

    private static String signature(Method method) {
        ArrayList<String> thrown = new ArrayList<>();
        for (Class<?> exception : method.getExceptionTypes()) {
            thrown.add(exception.getSimpleName());
        }
        String parameters = Arrays.toString(method.getParameterTypes());
        return method.getReturnType() + " " + method.getName() + "("
            + parameters.substring(1, parameters.length() - 1) + ")"
            + (thrown.isEmpty() ? "" : " throws " + String.join(", ", thrown));
    }
}
