import java.lang.reflect.InvocationTargetException;
import java.lang.reflect.Method;
import java.lang.reflect.Modifier;
import java.util.ArrayList;
import java.util.Comparator;
import java.util.List;

/** Runs every static method without parameters of the test classes that is not private. */
public final class AllTests {
    private static final Class<?>[] TESTS = {
        FaceTest.class,
        TownsAndRoadsTest.class,
        RumoursTest.class,
        BagsTest.class,
        JourneysTest.class,
        HoursTest.class,
        WaysTest.class,
        EdgesOfTownsTest.class,
        EdgesOfRumoursTest.class,
        EdgesOfBagsTest.class,
        EdgesOfJourneysTest.class,
        EdgesOfHoursTest.class,
        EdgesOfWaysTest.class,
        EdgesOfExceptionsTest.class,
        WildCallsTest.class,
        SecondReadingTest.class,
    };

    public static void main(String[] args) throws IllegalAccessException {
        int passed = 0;
        int failed = 0;
        for (Class<?> each : TESTS) {
            for (Method test : testsOf(each)) {
                try {
                    test.invoke(null);
                    passed++;
                } catch (InvocationTargetException e) {
                    failed++;
                    System.out.println("failed: " + each.getName() + "." + test.getName());
                    e.getCause().printStackTrace(System.out);
                }
            }
        }
        System.out.println(passed + " passed, " + failed + " failed");
        if (failed != 0 || passed == 0) {
            System.exit(1);
        }
    }

    private static List<Method> testsOf(Class<?> each) {
        List<Method> tests = new ArrayList<>();
        for (Method method : each.getDeclaredMethods()) {
            boolean isTest = Modifier.isStatic(method.getModifiers())
                    && !Modifier.isPrivate(method.getModifiers())
                    && !method.isSynthetic()
                    && method.getParameterCount() == 0;
            if (isTest) {
                tests.add(method);
            }
        }
        tests.sort(Comparator.comparing(Method::getName));
        return tests;
    }
}
