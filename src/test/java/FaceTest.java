import java.lang.reflect.Constructor;
import java.lang.reflect.Field;
import java.lang.reflect.Method;
import java.lang.reflect.Modifier;
import java.util.Set;
import java.util.TreeSet;

/** The class has the document's face, and no other member that can be seen from outside (LANGUAGE.md, rules 1 and 5). */
public final class FaceTest {
    private static final String[] FACE = {"feed", "close", "bring", "take", "cut", "crash", "waiting", "reply", "node",
        "content", "current", "running", "fill", "shelf", "job", "step"};

    public static void main(String[] args) {
        Due.is("public and final", ParcelLine.class.getModifiers(), Modifier.PUBLIC | Modifier.FINAL);
        constructors();
        methods();
        fields();
        for (Class<?> inner : ParcelLine.class.getDeclaredClasses()) {
            innerClass(inner);
        }
        Due.end();
    }

    private static void constructors() {
        Constructor<?>[] all = ParcelLine.class.getDeclaredConstructors();
        Due.is("constructors", all.length, 1);
        Due.is("public", Modifier.isPublic(all[0].getModifiers()), true);
        Due.is("parameters", all[0].getParameterCount(), 0);
    }

    private static void methods() {
        Set<String> seen = new TreeSet<>();
        for (Method method : ParcelLine.class.getDeclaredMethods()) {
            int modifiers = method.getModifiers();
            Due.is(method + " is public or private", Modifier.isPublic(modifiers) || Modifier.isPrivate(modifiers), true);
            if (Modifier.isPrivate(modifiers)) {
                Due.is(method + " bears a public name", Set.of(FACE).contains(method.getName()), false);
            } else {
                Due.is(method + " is static", Modifier.isStatic(modifiers), false);
                seen.add(method.getName());
            }
        }
        Due.is("the public methods", seen, new TreeSet<>(Set.of(FACE)));
    }

    private static void fields() {
        for (Field field : ParcelLine.class.getDeclaredFields()) {
            boolean isFace = field.getName().equals("NONE");
            int modifiers = field.getModifiers();
            Due.is(field + " is public", Modifier.isPublic(modifiers), isFace);
            Due.is(field + " is private", Modifier.isPrivate(modifiers), !isFace);
            if (Modifier.isStatic(modifiers)) {
                Due.is(field + " is final", Modifier.isFinal(modifiers), true);
            }
        }
    }

    private static void innerClass(Class<?> inner) {
        Due.is(inner + " is static", Modifier.isStatic(inner.getModifiers()), true);
        Due.is(inner + " is public", Modifier.isPublic(inner.getModifiers()), false);
        for (Method method : inner.getDeclaredMethods()) {
            Due.is(method + " bears a public name", Set.of(FACE).contains(method.getName()), false);
        }
        for (Field field : inner.getDeclaredFields()) {
            if (Modifier.isStatic(field.getModifiers())) {
                Due.is(field + " is final", Modifier.isFinal(field.getModifiers()), true);
            }
        }
    }
}
