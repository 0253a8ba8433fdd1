import java.lang.reflect.Constructor;
import java.lang.reflect.Field;
import java.lang.reflect.Method;
import java.lang.reflect.Modifier;
import java.util.Arrays;
import java.util.Set;
import java.util.TreeSet;

/** The public face: exactly the document's members, and none that another class could reach beside them. */
public final class FaceTest {
    private static final Set<String> METHODS = Set.of(
        "int spawn[]", "int fork[int]", "int exit[int]", "int map[int, int, boolean]",
        "int attach[int, int, int, int]", "int unmap[int, int]", "int protect[int, int, boolean]",
        "int write[int, int, int]", "long read[int, int]", "int free[]", "int tables[int]",
        "int pages[int]", "int count[int, int]", "int mapping[int, int]",
        "int twin[int, int, int, int]", "int running[]", "int faults[boolean]");
    private static final Set<String> FIELDS = Set.of(
        "int NO_PROCESS", "int BAD", "int UNMAPPED", "int TAKEN", "int READ_ONLY", "int PRIVATE",
        "int FULL", "int NO_ROOM", "long NOTHING");

    public static void main(String[] args) {
        Check.due("class public", Modifier.isPublic(ForkedPages.class.getModifiers()));
        Check.due("class final", Modifier.isFinal(ForkedPages.class.getModifiers()));
        methods();
        fields();
        constructors();
        constants();
        classesInside();
        Check.finish();
    }

    private static void methods() {
        Set<String> open = new TreeSet<>();
        Set<String> openNames = new TreeSet<>();
        for (Method method : ForkedPages.class.getDeclaredMethods()) {
            if (!Modifier.isPrivate(method.getModifiers()) && !method.isSynthetic()) {
                Check.due(method + " public", Modifier.isPublic(method.getModifiers()));
                Check.due(method + " not static", !Modifier.isStatic(method.getModifiers()));
                Check.due(method + " declares no exception", method.getExceptionTypes().length, 0);
                open.add(method.getReturnType() + " " + method.getName() + Arrays.toString(method.getParameterTypes()));
                openNames.add(method.getName());
            }
        }
        Check.due("methods " + open, open.equals(METHODS));
        for (Method method : ForkedPages.class.getDeclaredMethods()) {
            if (Modifier.isPrivate(method.getModifiers())) {
                Check.due(method + " has a name of its own", !openNames.contains(method.getName()));
            }
        }
    }

    private static void fields() {
        Set<String> open = new TreeSet<>();
        for (Field field : ForkedPages.class.getDeclaredFields()) {
            int modifiers = field.getModifiers();
            Check.due(field + " final if static", !Modifier.isStatic(modifiers) || Modifier.isFinal(modifiers));
            if (!Modifier.isPrivate(modifiers)) {
                Check.due(field + " public static", Modifier.isPublic(modifiers) && Modifier.isStatic(modifiers));
                open.add(field.getType() + " " + field.getName());
            }
        }
        Check.due("fields " + open, open.equals(FIELDS));
    }

    private static void constructors() {
        Constructor<?>[] all = ForkedPages.class.getDeclaredConstructors();
        Check.due("constructors", all.length, 1);
        Check.due("constructor public", Modifier.isPublic(all[0].getModifiers()));
        Check.due("constructor parameters", all[0].getParameterCount(), 0);
    }

    private static void constants() {
        Check.due("NO_PROCESS", ForkedPages.NO_PROCESS, -1);
        Check.due("BAD", ForkedPages.BAD, -2);
        Check.due("UNMAPPED", ForkedPages.UNMAPPED, -3);
        Check.due("TAKEN", ForkedPages.TAKEN, -4);
        Check.due("READ_ONLY", ForkedPages.READ_ONLY, -5);
        Check.due("PRIVATE", ForkedPages.PRIVATE, -6);
        Check.due("FULL", ForkedPages.FULL, -7);
        Check.due("NO_ROOM", ForkedPages.NO_ROOM, -8);
        Check.due("NOTHING", ForkedPages.NOTHING, 1L << 40);
    }

    private static void classesInside() {
        Set<String> faceNames = new TreeSet<>();
        for (String method : METHODS) {
            faceNames.add(method.substring(method.indexOf(' ') + 1, method.indexOf('[')));
        }
        for (Class<?> inside : ForkedPages.class.getDeclaredClasses()) {
            int modifiers = inside.getModifiers();
            Check.due(inside + " static", Modifier.isStatic(modifiers));
            Check.due(inside + " hidden", !Modifier.isPublic(modifiers) && !Modifier.isProtected(modifiers));
            for (Method method : inside.getDeclaredMethods()) {
                Check.due(method + " has a name of its own", !faceNames.contains(method.getName()));
            }
        }
    }
}
