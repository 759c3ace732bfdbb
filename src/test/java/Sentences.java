import java.lang.reflect.InvocationTargetException;
import java.lang.reflect.Method;
import java.util.ArrayList;
import java.util.Arrays;
import java.util.Comparator;
import java.util.List;

/** Runs the tests of a class, each on a new object, and tells the sentence of each that fails. */
final class Sentences {
    static List<Method> of(Class<?> tests) {
        List<Method> found = new ArrayList<>();
        for (Method m : tests.getDeclaredMethods()) {
            if (m.isAnnotationPresent(Sentence.class)) {
                found.add(m);
            }
        }
        found.sort(Comparator.comparing(Method::getName));
        return found;
    }

    static void test(Class<?> tests) throws IllegalAccessException {
        int wrong = 0;
        List<Method> all = of(tests);
        for (Method m : all) {
            try {
                m.invoke(null, new TurnWheel());
            } catch (InvocationTargetException e) {
                wrong++;
                tell(m, e.getCause());
            }
        }
        System.out.println(all.size() + " tests of sentences, " + wrong + " wrong");
        if (wrong != 0 || all.isEmpty()) {
            System.exit(1);
        }
    }

    private static void tell(Method m, Throwable why) {
        System.out.println(m.getName() + " (" + m.getAnnotation(Sentence.class).value() + ")");
        System.out.println("    " + (why instanceof AssertionError ? why.getMessage() : why.toString()));
        Arrays.stream(why.getStackTrace()).filter(at -> at.getClassName().equals(m.getDeclaringClass().getName()))
                .forEach(at -> System.out.println("    at " + at.getFileName() + ":" + at.getLineNumber()));
    }
}
