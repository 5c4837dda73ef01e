import java.lang.reflect.InvocationTargetException;
import java.lang.reflect.Method;
import java.util.Arrays;
import java.util.Comparator;

/**
 * Promises 1 to 31, sentence by sentence, with answers worked out by hand. Each test is a method by itself, named after
 * its promise and its sentence: promise02NoByteIsOutside holds the class against promise 2.
 */
final class PromiseTests {
    private static final Check CHECK = new Check("PromiseTests");
    private static final int PROMISES = 31;
    private static final Class<?>[] TESTS = {QuestionPromises.class, TextPromises.class, FaultPromises.class, ChangePromises.class,
        YearPromises.class, DriftPromises.class, WantPromises.class, MadePromises.class};

    public static void main(String[] args) throws IllegalAccessException {
        int[] tests = new int[PROMISES + 1];
        for (Class<?> one : TESTS) {
            Method[] methods = one.getDeclaredMethods();
            Arrays.sort(methods, Comparator.comparing(Method::getName));
            for (Method method : methods) {
                if (method.getName().startsWith("promise")) {
                    tests[promiseOf(method)]++;
                    run(method);
                }
            }
        }
        for (int promise = 1; promise <= PROMISES; promise++) {
            CHECK.isTrue("promise " + promise + " has a test", tests[promise] > 0);
        }
        System.out.println("PromiseTests: " + Arrays.stream(tests).sum() + " tests");
        CHECK.end();
    }

    private static int promiseOf(Method test) {
        return Integer.parseInt(test.getName().substring(7, 9));
    }

    private static void run(Method test) throws IllegalAccessException {
        Check own = new Check(test.getName());
        try {
            test.invoke(null, own);
        } catch (InvocationTargetException thrown) {
            own.isTrue("nothing is thrown, yet " + thrown.getCause(), false);
        }
        CHECK.add(own);
    }
}
