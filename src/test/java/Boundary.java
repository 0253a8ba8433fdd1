import java.lang.reflect.InvocationTargetException;
import java.lang.reflect.Method;
import java.util.Arrays;
import java.util.Comparator;
import java.util.function.IntFunction;

/** What the tests of boundary cases share: the codes, the wrong numbers, the scenes, and the way they are run. */
abstract class Boundary {
    static final int NO_PROCESS = ForkedPages.NO_PROCESS;
    static final int BAD = ForkedPages.BAD;
    static final int UNMAPPED = ForkedPages.UNMAPPED;
    static final int TAKEN = ForkedPages.TAKEN;
    static final int READ_ONLY = ForkedPages.READ_ONLY;
    static final int PRIVATE = ForkedPages.PRIVATE;
    static final int FULL = ForkedPages.FULL;
    static final int NO_ROOM = ForkedPages.NO_ROOM;
    static final long NOTHING = ForkedPages.NOTHING;
    static final int LEAST = Integer.MIN_VALUE;
    static final int GREATEST = Integer.MAX_VALUE;

    /** Beside the nearest: numbers that a shift, a product or a cast would bend back into 0 .. 4. */
    static final int[] PROCESSES_TOO_SMALL = {-1, -2, -5, -31, -32, -64, -256, -65536, LEAST + 1, LEAST};
    static final int[] PROCESSES_TOO_LARGE = {5, 6, 7, 8, 16, 32, 33, 64, 256, 65536, 1 << 30, GREATEST};

    /** Beside the nearest: numbers that would be bent back into 0 .. 63. */
    static final int[] PAGES_TOO_SMALL = {-1, -2, -3, -4, -16, -63, -64, -65, -256, -65536, LEAST + 1, LEAST};
    static final int[] PAGES_TOO_LARGE = {64, 65, 66, 69, 127, 128, 256, 65536, 1 << 30, (1 << 30) + 1, GREATEST};

    /** Beside the nearest: numbers that would be bent back into 0 .. 255; -3 .. -1 divided by 4 are 0. */
    static final int[] ADDRESSES_TOO_SMALL = {-1, -2, -3, -4, -5, -252, -255, -256, -257, -65536, LEAST + 1, LEAST};
    static final int[] ADDRESSES_TOO_LARGE = {256, 257, 258, 259, 260, 511, 512, 65536, 1 << 30, GREATEST - 3, GREATEST};

    static void due(long got, long want) {
        Check.due(got, want);
    }

    /** Processes 3 (ended) and 4 (never started) do not run in any scene but those of five. */
    static void refusesEveryWrongProcess(Scene scene, long code, IntFunction<Scene.Call> call) {
        refusesEach(scene, code, PROCESSES_TOO_SMALL, call);
        refusesEach(scene, code, PROCESSES_TOO_LARGE, call);
        refusesEach(scene, code, new int[] {3, 4}, call);
    }

    static void refusesEach(Scene scene, long code, int[] numbers, IntFunction<Scene.Call> call) {
        for (int number : numbers) {
            scene.refuses(call.apply(number), code);
        }
    }

    /** Runs every test of the class, in the order of the names, and ends the program. */
    static void runAll(Class<? extends Boundary> tests) {
        Method[] methods = tests.getDeclaredMethods();
        Arrays.sort(methods, Comparator.comparing(Method::getName));
        for (Method method : methods) {
            Says says = method.getAnnotation(Says.class);
            if (says != null) {
                run(method, says.value());
            }
        }
        Check.finish();
    }

    private static void run(Method method, String words) {
        int before = Check.wrongSoFar();
        try {
            method.invoke(null);
        } catch (InvocationTargetException thrown) {
            thrown.getCause().printStackTrace(System.out);
            Check.due(method.getName() + " without an exception", false);
        } catch (IllegalAccessException hidden) {
            Check.due(method.getName() + " could be run", false);
        }
        if (Check.wrongSoFar() > before) {
            System.out.println("  in " + method.getName() + ": \"" + words + "\"");
        }
    }
}
