import java.lang.reflect.Constructor;
import java.lang.reflect.Field;
import java.lang.reflect.Member;
import java.lang.reflect.Method;
import java.lang.reflect.Modifier;
import java.util.Arrays;
import java.util.Set;
import java.util.TreeSet;
import java.util.stream.Collectors;

/** The public face: what the document lists, and nothing that is visible beside it. */
public final class FaceTest {
    private static final Set<String> FACE = Set.of(
            "int write(int, long) throws IllegalArgumentException",
            "int wipe() throws ",
            "int layer(int) throws IllegalArgumentException",
            "void root(int, int) throws IllegalArgumentException",
            "void follow(int, int, int) throws IllegalArgumentException, IllegalStateException",
            "int frame(int, int) throws IllegalArgumentException, IllegalStateException",
            "int drop(int) throws IndexOutOfBoundsException",
            "void limit(int) throws IllegalArgumentException",
            "int decode(int) throws IndexOutOfBoundsException",
            "int entry(int, int, int) throws IndexOutOfBoundsException, IllegalArgumentException",
            "long value(int, int) throws IndexOutOfBoundsException",
            "int filter(int) throws IllegalArgumentException",
            "int next(int, int) throws IllegalArgumentException, NoSuchElementException",
            "long total(int, int, int, int) throws IllegalArgumentException, "
                    + "NoSuchElementException",
            "int talks(int, int, int, int) throws IllegalArgumentException",
            "long talk(int, int) throws IndexOutOfBoundsException, IllegalArgumentException",
            "int stream(int, int, int) throws IndexOutOfBoundsException, IllegalArgumentException",
            "int streamed(int) throws ");

    public static void main(String[] args) {
        Class<?> bench = CaptureBench.class;
        dueTrue("the class is public and final",
                Modifier.isPublic(bench.getModifiers()) && Modifier.isFinal(bench.getModifiers()));
        Checks.due("NONE", CaptureBench.NONE, -1);
        methods(bench);
        for (Field field : bench.getDeclaredFields()) {
            boolean none = field.getName().equals("NONE") && Modifier.isStatic(field.getModifiers())
                    && Modifier.isFinal(field.getModifiers())
                    && Modifier.isPublic(field.getModifiers()) && field.getType() == int.class;
            dueTrue("the field " + field, none || isPrivate(field));
        }
        Constructor<?>[] constructors = bench.getDeclaredConstructors();
        dueTrue("one public constructor without parameters", constructors.length == 1
                && Modifier.isPublic(constructors[0].getModifiers())
                && constructors[0].getParameterCount() == 0);
        for (Class<?> inside : bench.getDeclaredClasses()) {
            dueTrue("the class " + inside.getName(), Modifier.isStatic(inside.getModifiers())
                    && !Modifier.isPublic(inside.getModifiers()));
        }
        Checks.end();
    }

    private static void methods(Class<?> bench) {
        Set<String> publicOnes = new TreeSet<>();
        Set<String> publicNames = new TreeSet<>();
        for (Method method : bench.getDeclaredMethods()) {
            if (Modifier.isPublic(method.getModifiers())) {
                publicOnes.add(signature(method));
                publicNames.add(method.getName());
                dueTrue(method + " is no static method", !Modifier.isStatic(method.getModifiers()));
            }
        }
        dueTrue("the public methods " + publicOnes, publicOnes.equals(new TreeSet<>(FACE)));
        for (Method method : bench.getDeclaredMethods()) {
            if (!Modifier.isPublic(method.getModifiers())) {
                dueTrue("the method " + method,
                        isPrivate(method) && !publicNames.contains(method.getName()));
            }
        }
    }

    private static String signature(Method method) {
        return method.getReturnType() + " " + method.getName() + "("
                + names(method.getParameterTypes()) + ") throws "
                + names(method.getExceptionTypes());
    }

    private static String names(Class<?>[] types) {
        return Arrays.stream(types).map(Class::getSimpleName).collect(Collectors.joining(", "));
    }

    private static boolean isPrivate(Member member) {
        return Modifier.isPrivate(member.getModifiers());
    }

    private static void dueTrue(String what, boolean holds) {
        Checks.due(what, holds ? 1 : 0, 1);
    }
}
