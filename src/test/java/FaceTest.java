import java.lang.reflect.Constructor;
import java.lang.reflect.Field;
import java.lang.reflect.Method;
import java.lang.reflect.Modifier;
import java.util.Arrays;
import java.util.TreeSet;
import java.util.stream.Collectors;

/** The public face, and rule 1 of LANGUAGE.md. */
public final class FaceTest {
    private static final String[] FACE = {
        "int pin(int) IllegalArgumentException IllegalStateException NoSuchElementException"
                + " UnsupportedOperationException",
        "int remake(int) IllegalArgumentException IllegalStateException UnsupportedOperationException",
        "boolean unpin(int)",
        "int get(int int)",
        "boolean set(int int int int)",
        "int clean(int) IllegalArgumentException UnsupportedOperationException",
        "int sweep() UnsupportedOperationException",
        "void charge(int) IllegalArgumentException",
        "boolean flushed(int)",
        "int look(int int)",
        "int disk(int int)",
        "boolean torn(int)",
        "int count(int)",
    };

    public static void main(String[] args) {
        Check.same("modifiers of the class", BufferDesk.class.getModifiers(), Modifier.PUBLIC | Modifier.FINAL);
        constructors();
        methods();
        fields();
        classesInside();
        Check.end();
    }

    private static void constructors() {
        Constructor<?>[] all = BufferDesk.class.getDeclaredConstructors();
        Check.same("constructors", all.length, 1);
        Check.same("modifiers of the constructor", all[0].getModifiers(), Modifier.PUBLIC);
        Check.same("parameters of the constructor", all[0].getParameterCount(), 0);
    }

    private static void methods() {
        TreeSet<String> shown = new TreeSet<>();
        TreeSet<String> shownNames = new TreeSet<>();
        TreeSet<String> hiddenNames = new TreeSet<>();
        for (Method method : BufferDesk.class.getDeclaredMethods()) {
            if (Modifier.isPrivate(method.getModifiers())) {
                hiddenNames.add(method.getName());
            } else {
                Check.same("modifiers of " + method, method.getModifiers(), Modifier.PUBLIC);
                shown.add(told(method));
                shownNames.add(method.getName());
            }
        }
        TreeSet<String> due = new TreeSet<>(Arrays.asList(FACE));
        Check.same("the public methods", String.join("\n", shown), String.join("\n", due));
        hiddenNames.retainAll(shownNames);
        Check.same("private methods with a public one's name", hiddenNames.toString(), "[]");
    }

    private static String told(Method method) {
        String parameters = names(method.getParameterTypes());
        String exceptions = names(method.getExceptionTypes());
        String head = method.getReturnType().getSimpleName() + " " + method.getName() + "(" + parameters + ")";
        return exceptions.isEmpty() ? head : head + " " + exceptions;
    }

    private static String names(Class<?>[] types) {
        return Arrays.stream(types).map(Class::getSimpleName).collect(Collectors.joining(" "));
    }

    private static void fields() {
        for (Field field : BufferDesk.class.getDeclaredFields()) {
            int modifiers = field.getModifiers();
            Check.yes(field + " is private", Modifier.isPrivate(modifiers));
            Check.yes(field + " is final if static", !Modifier.isStatic(modifiers) || Modifier.isFinal(modifiers));
        }
    }

    private static void classesInside() {
        for (Class<?> inside : BufferDesk.class.getDeclaredClasses()) {
            int modifiers = inside.getModifiers();
            Check.no(inside + " is public", Modifier.isPublic(modifiers));
            Check.no(inside + " is protected", Modifier.isProtected(modifiers));
            Check.yes(inside + " is static", Modifier.isStatic(modifiers));
        }
    }
}
