import java.lang.reflect.Constructor;
import java.lang.reflect.Field;
import java.lang.reflect.Method;
import java.lang.reflect.Modifier;
import java.util.Arrays;
import java.util.Set;
import java.util.TreeSet;

/** The public face of the document, and that nothing else can be seen (rule 1 of LANGUAGE.md). */
final class FaceTest {
    private static final Checks checks = new Checks();

    public static void main(String[] args) throws ReflectiveOperationException {
        classItself();
        constants();
        constructors();
        methods();
        classesInside();
        checks.end();
    }

    private static void classItself() {
        int modifiers = ViewMediator.class.getModifiers();
        checks.due("public", Modifier.isPublic(modifiers), true);
        checks.due("final", Modifier.isFinal(modifiers), true);
        checks.due("package", ViewMediator.class.getPackageName(), "");
    }

    private static void constants() throws ReflectiveOperationException {
        checks.due("BAD", ViewMediator.BAD, -1);
        checks.due("BLOCKED", ViewMediator.BLOCKED, -2);
        checks.due("SILENT", ViewMediator.SILENT, -3);
        Set<String> seen = new TreeSet<>();
        for (Field field : ViewMediator.class.getDeclaredFields()) {
            if (!Modifier.isPrivate(field.getModifiers())) {
                seen.add(Modifier.toString(field.getModifiers()) + " " + field.getType() + " " + field.getName());
            }
        }
        checks.due("fields that can be seen", seen, Set.of("public static final int BAD",
                "public static final int BLOCKED", "public static final int SILENT"));
    }

    private static void constructors() {
        Constructor<?>[] all = ViewMediator.class.getDeclaredConstructors();
        checks.due("constructors", all.length, 1);
        checks.due("constructor", all[0].toString(), "public ViewMediator()");
    }

    private static void methods() {
        Set<String> want = Set.of("boolean fact[int, int, int]", "boolean retract[int, int, int]",
                "boolean allow[int, int]", "boolean fail[int, int]", "int failures[int]", "int rule[int]",
                "boolean atom[int, int, int, int]", "int forget[int]", "boolean ask[int, int, int]", "void clear[]",
                "int run[]", "int result[int]", "int disjuncts[]", "int size[int]", "int atomAt[int, int]",
                "int patternAt[int, int]", "int requests[]", "int tries[]");
        Set<String> seen = new TreeSet<>();
        for (Method method : ViewMediator.class.getDeclaredMethods()) {
            if (!Modifier.isPrivate(method.getModifiers())) {
                checks.due(method.getName() + " public", method.getModifiers(), Modifier.PUBLIC);
                seen.add(method.getReturnType() + " " + method.getName() + Arrays.toString(method.getParameterTypes()));
            }
        }
        checks.due("methods that can be seen", seen, want);
    }

    private static void classesInside() {
        for (Class<?> inside : ViewMediator.class.getDeclaredClasses()) {
            int modifiers = inside.getModifiers();
            checks.due(inside.getName() + " static", Modifier.isStatic(modifiers), true);
            checks.due(inside.getName() + " seen from afar",
                    Modifier.isPublic(modifiers) || Modifier.isProtected(modifiers), false);
        }
    }
}
