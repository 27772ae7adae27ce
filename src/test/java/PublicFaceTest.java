import java.lang.reflect.Constructor;
import java.lang.reflect.Field;
import java.lang.reflect.Method;
import java.lang.reflect.Modifier;
import java.util.ArrayList;
import java.util.Arrays;
import java.util.Collections;
import java.util.List;
import java.util.stream.Collectors;

/** The public face, as the document writes it, and nothing beside it. */
public final class PublicFaceTest {
    private static final Check CHECK = new Check();
    private static final List<String> METHODS = List.of(
            "int feed(int, int, int, int, int) throws IndexOutOfBoundsException",
            "int end(int) throws IllegalArgumentException",
            "int build() throws IllegalStateException",
            "int ship()",
            "int fault(int) throws IllegalArgumentException",
            "int decode(long)",
            "long field(int, int, long) throws NoSuchElementException",
            "void poke(int, int, long) throws NoSuchElementException",
            "long peek(int, int) throws NoSuchElementException",
            "int step(long)",
            "int run(int) throws IllegalArgumentException, IllegalStateException",
            "int trap()",
            "int thing(int, int) throws IllegalArgumentException, NoSuchElementException",
            "long free()",
            "int count(int)");

    public static void main(String[] args) {
        theClass();
        constructors();
        methods();
        privateNames(MachineLoom.class);
        classesInside();
        CHECK.finish();
    }

    private static void is(String what, boolean holds) {
        CHECK.due(what, holds ? 1 : 0, 1);
    }

    private static void theClass() {
        CHECK.sentence("public final class MachineLoom {");
        is("public and final", MachineLoom.class.getModifiers() == (Modifier.PUBLIC | Modifier.FINAL));
        is("without a package", MachineLoom.class.getPackageName().isEmpty());
        is("made of nothing else", MachineLoom.class.getSuperclass() == Object.class);
        CHECK.due("interfaces", MachineLoom.class.getInterfaces().length, 0);
        for (Field field : MachineLoom.class.getDeclaredFields()) {
            is(field + " is private", Modifier.isPrivate(field.getModifiers()));
        }
    }

    private static void constructors() {
        CHECK.sentence("public MachineLoom();");
        Constructor<?>[] all = MachineLoom.class.getDeclaredConstructors();
        CHECK.due("constructors", all.length, 1);
        is("public", all[0].getModifiers() == Modifier.PUBLIC);
        CHECK.due("parameters", all[0].getParameterCount(), 0);
        CHECK.due("exceptions", all[0].getExceptionTypes().length, 0);
    }

    private static String names(Class<?>[] types) {
        return Arrays.stream(types).map(Class::getSimpleName).collect(Collectors.joining(", "));
    }

    private static String told(Method method) {
        String head = method.getReturnType().getSimpleName() + " " + method.getName()
                + "(" + names(method.getParameterTypes()) + ")";
        Class<?>[] exceptions = method.getExceptionTypes();
        return exceptions.length == 0 ? head : head + " throws " + names(exceptions);
    }

    private static void methods() {
        CHECK.sentence("public int count(int what);");
        List<String> found = new ArrayList<>();
        for (Method method : MachineLoom.class.getDeclaredMethods()) {
            if (!Modifier.isPrivate(method.getModifiers())) {
                is(method + " is public, and that alone", method.getModifiers() == Modifier.PUBLIC);
                found.add(told(method));
                is("the document has " + told(method), METHODS.contains(told(method)));
            }
        }
        for (String due : METHODS) {
            CHECK.due(due, Collections.frequency(found, due), 1);
        }
    }

    /** No private method bears the name of a public one. */
    private static void privateNames(Class<?> of) {
        for (Method method : of.getDeclaredMethods()) {
            boolean named = METHODS.stream().anyMatch(told -> told.contains(" " + method.getName() + "("));
            is(of + " " + method, !named || of == MachineLoom.class && Modifier.isPublic(method.getModifiers()));
        }
    }

    private static void classesInside() {
        for (Class<?> inside : MachineLoom.class.getDeclaredClasses()) {
            int modifiers = inside.getModifiers();
            is(inside + " is static", Modifier.isStatic(modifiers));
            is(inside + " is not public", !Modifier.isPublic(modifiers) && !Modifier.isProtected(modifiers));
            privateNames(inside);
        }
    }
}
