import java.lang.reflect.Constructor;
import java.lang.reflect.Field;
import java.lang.reflect.Method;
import java.lang.reflect.Modifier;
import java.util.ArrayList;
import java.util.Arrays;
import java.util.List;

/** "The public face": what the document's code block shows is there, and nothing else is to be seen. */
public final class FaceTest {
    private static final String SHOWN =
            "int feed(int, int, int, int, int) throws IllegalStateException\n"
            + "int trim(int) throws IllegalArgumentException\n"
            + "int teach()\n"
            + "int errorAt()\n"
            + "int count(int) throws IndexOutOfBoundsException\n"
            + "int lot(int, int) throws IndexOutOfBoundsException\n"
            + "int merchant(int, int) throws IndexOutOfBoundsException\n"
            + "int guild(int, int) throws IndexOutOfBoundsException\n"
            + "int order(int, int) throws IndexOutOfBoundsException\n"
            + "int owes(int, int) throws IndexOutOfBoundsException\n"
            + "int chain(int, int) throws IndexOutOfBoundsException\n"
            + "int ring(int) throws IndexOutOfBoundsException\n"
            + "int setDamp(int) throws IllegalArgumentException\n"
            + "int lend(int, int, int) throws IndexOutOfBoundsException, IllegalArgumentException, IllegalStateException\n"
            + "int offset(int, int) throws IndexOutOfBoundsException, IllegalArgumentException\n"
            + "int dry(int) throws IndexOutOfBoundsException\n"
            + "int pass(int) throws IllegalArgumentException\n"
            + "int foresee(int, int) throws IllegalArgumentException, IndexOutOfBoundsException\n"
            + "int costs(int, int) throws IllegalArgumentException\n"
            + "int richest(int) throws IllegalArgumentException\n"
            + "int until(int) throws IndexOutOfBoundsException\n"
            + "double mean()\n"
            + "long digest()";

    public static void main(String[] args) {
        theClass();
        theConstructor();
        theMethods();
        noFields();
        theClassesInside();
        Due.end();
    }

    private static void theClass() {
        Class<?> quay = SpiceQuay.class;
        holds("the class is public", Modifier.isPublic(quay.getModifiers()));
        holds("the class is final", Modifier.isFinal(quay.getModifiers()));
        holds("the class has no package", quay.getPackageName().isEmpty());
        holds("the class extends nothing", quay.getSuperclass() == Object.class);
        holds("the class implements nothing", quay.getInterfaces().length == 0);
    }

    private static void theConstructor() {
        Constructor<?>[] all = SpiceQuay.class.getDeclaredConstructors();
        Due.is("constructors", all.length, 1);
        holds("the constructor is public", Modifier.isPublic(all[0].getModifiers()));
        Due.is("what the constructor is given", all[0].getParameterCount(), 0);
        Due.is("what the constructor throws", all[0].getExceptionTypes().length, 0);
    }

    private static void theMethods() {
        List<String> shown = Arrays.asList(SHOWN.split("\n"));
        List<String> there = new ArrayList<>();
        for (Method method : SpiceQuay.class.getDeclaredMethods()) {
            if (!Modifier.isPrivate(method.getModifiers()) && !method.isSynthetic()) {
                holds(method.getName() + " is public", Modifier.isPublic(method.getModifiers()));
                holds(method.getName() + " is a method of an object", !Modifier.isStatic(method.getModifiers()));
                there.add(written(method));
            }
        }
        for (String method : shown) {
            holds("the class has " + method, there.contains(method));
        }
        for (String method : there) {
            holds("the document has " + method, shown.contains(method));
        }
    }

    private static String written(Method method) {
        String line = method.getReturnType().getSimpleName() + " " + method.getName()
                + "(" + names(method.getParameterTypes()) + ")";
        return method.getExceptionTypes().length == 0 ? line : line + " throws " + names(method.getExceptionTypes());
    }

    private static String names(Class<?>[] classes) {
        List<String> names = new ArrayList<>();
        for (Class<?> one : classes) {
            names.add(one.getSimpleName());
        }
        return String.join(", ", names);
    }

    /** The document shows no constant. */
    private static void noFields() {
        for (Field field : SpiceQuay.class.getDeclaredFields()) {
            holds("the field " + field.getName() + " is private", Modifier.isPrivate(field.getModifiers()));
        }
    }

    private static void theClassesInside() {
        for (Class<?> inside : SpiceQuay.class.getDeclaredClasses()) {
            int modifiers = inside.getModifiers();
            holds(inside + " is not seen outside", !Modifier.isPublic(modifiers) && !Modifier.isProtected(modifiers));
            holds(inside + " is static", Modifier.isStatic(modifiers));
        }
    }

    private static void holds(String what, boolean it) {
        Due.is(what + " (1 yes, 0 no)", it ? 1 : 0, 1);
    }
}
