import java.io.IOException;
import java.lang.reflect.InvocationTargetException;
import java.lang.reflect.Method;
import java.nio.file.Files;
import java.nio.file.Path;
import java.util.ArrayList;
import java.util.Arrays;
import java.util.Comparator;
import java.util.List;

/** Runs the tests of one class: every static method that takes Checks alone, each with the words that it holds. */
final class Sentences {
    private static final Path DOCUMENT = Path.of("..", "shared", "DOC.md");

    private Sentences() {
    }

    static void test(Class<?> tests) throws IOException, IllegalAccessException {
        String document = Files.readString(DOCUMENT);
        List<Method> methods = testsOf(tests);
        int wrong = 0;
        for (Method method : methods) {
            if (!holds(method, document)) {
                wrong++;
            }
        }
        if (methods.isEmpty() || wrong != 0) {
            System.out.println(tests.getName() + ": " + wrong + " of " + methods.size() + " tests failed");
            System.exit(1);
        }
    }

    private static List<Method> testsOf(Class<?> tests) {
        List<Method> methods = new ArrayList<>();
        for (Method method : tests.getDeclaredMethods()) {
            if (Arrays.equals(method.getParameterTypes(), new Class<?>[] {Checks.class})) {
                methods.add(method);
            }
        }
        methods.sort(Comparator.comparing(Method::getName));
        return methods;
    }

    private static boolean holds(Method method, String document) throws IllegalAccessException {
        String name = method.getDeclaringClass().getName() + "." + method.getName();
        Says says = method.getAnnotation(Says.class);
        if (says == null || !document.contains(says.value())) {
            System.out.println("  FAIL " + name + " has no words of the document");
            return false;
        }
        boolean passed = passes(method);
        System.out.println((passed ? "  ok   " : "  FAIL ") + name + ": \"" + says.value() + "\"");
        return passed;
    }

    /** A test that compared nothing has shown nothing, and does not pass. */
    private static boolean passes(Method method) throws IllegalAccessException {
        Checks checks = new Checks();
        try {
            method.invoke(null, checks);
        } catch (InvocationTargetException e) {
            e.getCause().printStackTrace(System.out);
            return false;
        }
        return checks.made() > 0 && checks.wrong() == 0;
    }
}
