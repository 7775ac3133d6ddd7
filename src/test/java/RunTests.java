import java.lang.reflect.InvocationTargetException;
import java.lang.reflect.Method;
import java.lang.reflect.Modifier;
import java.util.Arrays;
import java.util.Comparator;
import java.util.TreeSet;

/**
 * Runs each static method of the test classes whose name begins with 'promise' and a number, with 'rule'
 * or with 'readme'. The arguments are how many tests passed and failed before, which are counted with its own.
 */
public final class RunTests {
    static final Class<?>[] TESTS = {AccountTests.class, InstructionTests.class, CycleTests.class, DayTests.class,
        EventTests.class, ReadTests.class, RefusalTests.class, RangeTests.class, EdgeTests.class,
        RoundingTests.class, StateTests.class, FaceTests.class, ReadmeTests.class, RandomTests.class};
    private static final int PROMISES = 46;

    private RunTests() {
    }

    public static void main(String[] args) throws IllegalAccessException {
        int passed = args.length > 0 ? Integer.parseInt(args[0]) : 0;
        int failed = args.length > 1 ? Integer.parseInt(args[1]) : 0;
        TreeSet<Integer> tested = new TreeSet<>();
        for (Class<?> tests : TESTS) {
            for (Method test : testsOf(tests)) {
                try {
                    test.invoke(null);
                    passed++;
                    if (test.getName().startsWith("promise")) {
                        tested.add(Integer.parseInt(test.getName().substring(7, 9)));
                    }
                } catch (InvocationTargetException e) {
                    failed++;
                    System.out.println("FAILED " + tests.getName() + "." + test.getName() + ": " + e.getCause());
                }
            }
        }
        for (int promise = 1; promise <= PROMISES; promise++) {
            if (!tested.contains(promise)) {
                failed++;
                System.out.println("FAILED: promise " + promise + " has no test that passes");
            }
        }
        System.out.println(passed + " passed, " + failed + " failed");
        if (failed > 0) {
            System.exit(1);
        }
    }

    private static Method[] testsOf(Class<?> tests) {
        return Arrays.stream(tests.getDeclaredMethods())
                .filter(method -> Modifier.isStatic(method.getModifiers()) && method.getParameterCount() == 0)
                .filter(method -> method.getName().matches("(promise\\d\\d|rule|readme).*"))
                .sorted(Comparator.comparing(Method::getName))
                .toArray(Method[]::new);
    }
}
