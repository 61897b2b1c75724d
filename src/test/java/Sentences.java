import java.lang.reflect.InvocationTargetException;
import java.lang.reflect.Method;
import java.nio.file.Files;
import java.nio.file.Path;
import java.util.ArrayList;
import java.util.Comparator;
import java.util.List;
import java.util.Set;
import java.util.TreeSet;

/** Runs every test of a class that stands for a sentence, each by itself, and sees that no promise goes without one. */
final class Sentences {
    private Sentences() {
    }

    static void run(Class<?> tests, int firstPromise, int lastPromise) throws Exception {
        String document = document();
        Set<Integer> told = new TreeSet<>();
        for (Method test : testsOf(tests)) {
            Says says = test.getAnnotation(Says.class);
            told.add(says.promise());
            runOne(test, says);
            if (!document.isEmpty() && !document.contains(says.text())) {
                System.out.println("note: the document has no such words any more: " + name(says));
            }
        }
        Checks.begin("every promise has a sentence with a test");
        for (int promise = firstPromise; promise <= lastPromise; promise++) {
            Checks.due("promise " + promise, told.contains(promise) ? 1 : 0, 1);
        }
        System.out.println(testsOf(tests).size() + " tests by sentence");
        Checks.end();
    }

    private static void runOne(Method test, Says says) throws IllegalAccessException {
        Checks.begin(name(says) + " (" + test.getName() + ")");
        int made = Checks.made();
        try {
            test.invoke(null);
        } catch (InvocationTargetException thrown) {
            System.out.println(thrown.getCause());
            Checks.due("a throw", 1, 0);
        }
        Checks.due("it looks at an answer", Checks.made() > made ? 1 : 0, 1);
    }

    private static List<Method> testsOf(Class<?> tests) {
        List<Method> all = new ArrayList<>();
        for (Method method : tests.getDeclaredMethods()) {
            if (method.isAnnotationPresent(Says.class)) {
                method.setAccessible(true);
                all.add(method);
            }
        }
        all.sort(Comparator.comparing((Method one) -> one.getAnnotation(Says.class).promise()).thenComparing(Method::getName));
        return all;
    }

    private static String name(Says says) {
        return (says.promise() == 0 ? "Terms" : "promise " + says.promise()) + ": \"" + says.text() + "\"";
    }

    /** Without the document the tests still stand; only their words can't be looked up in it. */
    private static String document() throws Exception {
        Path path = Path.of(System.getProperty("document", "../shared/DOC.md"));
        return Files.isReadable(path) ? Files.readString(path) : "";
    }
}
