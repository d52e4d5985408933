import java.lang.reflect.InvocationTargetException;
import java.lang.reflect.Method;
import java.util.Arrays;
import java.util.Comparator;
import java.util.List;

/** Runs the tests of a class that are marked with a sentence, and names it where it does not hold. */
final class Edges {
    static final List<Class<?>> TESTS = List.of(
            EdgeCodesTest.class,
            EdgeEventsTest.class,
            EdgeMemoryTest.class,
            EdgeCyclesTest.class,
            EdgePowerTest.class,
            EdgeTellingTest.class,
            EdgeRefusalsTest.class,
            EdgeFirstRefusalTest.class);

    private static Sentence held;
    private static int wrong = 0;

    private Edges() {
    }

    static List<Method> testsOf(Class<?> tests) {
        return Arrays.stream(tests.getDeclaredMethods())
                .filter(m -> m.isAnnotationPresent(Holds.class))
                .sorted(Comparator.comparing(Method::getName))
                .toList();
    }

    static void run(Class<?> tests) {
        for (Method test : testsOf(tests)) {
            held = test.getAnnotation(Holds.class).value();
            run(test);
        }
        if (wrong != 0) {
            System.out.println(wrong + " answers are not as due");
            System.exit(1);
        }
    }

    private static void run(Method test) {
        try {
            test.invoke(null);
        } catch (InvocationTargetException thrown) {
            tell(test.getName() + ": threw " + thrown.getCause());
        } catch (IllegalAccessException closed) {
            tell(test.getName() + ": cannot be run, " + closed);
        }
    }

    static void due(int want, int got, String what) {
        if (got != want) {
            tell(what + ": answered " + got + ", due is " + want);
        }
    }

    static void same(List<String> want, List<String> got, String what) {
        for (int i = 0; i < Math.max(want.size(), got.size()); i++) {
            String wanted = i < want.size() ? want.get(i) : "nothing";
            String gotten = i < got.size() ? got.get(i) : "nothing";
            if (!wanted.equals(gotten)) {
                tell(what + ": told " + gotten + ", due is " + wanted);
            }
        }
    }

    private static void tell(String what) {
        wrong++;
        System.out.println(held + ": " + what);
    }
}
