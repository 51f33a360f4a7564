import java.lang.reflect.Constructor;
import java.lang.reflect.Field;
import java.lang.reflect.Method;
import java.lang.reflect.Modifier;
import java.util.Arrays;
import java.util.TreeSet;

/** The public face is the document's, and nothing else can be seen from outside. */
public final class FaceTest {
    public static void main(String[] args) {
        Check.due("the class's modifiers", Modifier.toString(TinyForge.class.getModifiers()), "public final");
        seenMethods();
        Constructor<?>[] constructors = TinyForge.class.getDeclaredConstructors();
        Check.due("constructors", Arrays.toString(constructors), "[public TinyForge()]");
        for (Field field : TinyForge.class.getDeclaredFields()) {
            Check.due(field + " is private", Modifier.isPrivate(field.getModifiers()), true);
            Check.due(field + " is no state of the class",
                    !Modifier.isStatic(field.getModifiers()) || Modifier.isFinal(field.getModifiers()), true);
        }
        for (Class<?> inside : TinyForge.class.getDeclaredClasses()) {
            int modifiers = inside.getModifiers();
            Check.due(inside + " is static and not public",
                    Modifier.isStatic(modifiers) && !Modifier.isPublic(modifiers)
                            && !Modifier.isProtected(modifiers), true);
        }
        Check.end();
    }

    private static void seenMethods() {
        TreeSet<String> seen = new TreeSet<>();
        for (Method method : TinyForge.class.getDeclaredMethods()) {
            if (!Modifier.isPrivate(method.getModifiers())) {
                seen.add(method.toGenericString().replace("java.lang.", "").replace("java.util.", ""));
            }
        }
        Check.due("methods", String.join("\n", seen), String.join("\n", new TreeSet<>(Arrays.asList(
                "public int TinyForge.type(long,int) throws IllegalArgumentException,IllegalStateException",
                "public int TinyForge.clear()",
                "public int TinyForge.forge() throws UnsupportedOperationException",
                "public int TinyForge.why()",
                "public int TinyForge.where()",
                "public int TinyForge.give(int) throws IllegalStateException",
                "public int TinyForge.empty()",
                "public int TinyForge.run() throws NoSuchElementException",
                "public int TinyForge.result()",
                "public int TinyForge.output(int)",
                "public int TinyForge.ticks()"))));
    }
}
