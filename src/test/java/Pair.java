import java.lang.reflect.Method;
import java.nio.charset.StandardCharsets;
import java.util.ArrayList;
import java.util.Arrays;
import java.util.HashMap;
import java.util.List;
import java.util.Map;

/** The class and the slow model side by side: each call is made on both, and both must answer the same. */
final class Pair {
    private static final Map<String, Method> OWN = methodsOf(WreckCourt.class);
    private static final Map<String, Method> MODEL = methodsOf(Model.class);

    private final WreckCourt court = new WreckCourt();
    private final Model model = new Model();
    private final List<String> run = new ArrayList<>();
    private int wrong = 0;

    private static Map<String, Method> methodsOf(Class<?> face) {
        Map<String, Method> all = new HashMap<>();
        for (Method method : face.getDeclaredMethods()) {
            if (method.getModifiers() == java.lang.reflect.Modifier.PUBLIC) {
                all.put(method.getName(), method);
            }
        }
        return all;
    }

    int differences() {
        return wrong;
    }

    int callsMade() {
        return run.size();
    }

    void call(String name, Object... arguments) throws Exception {
        Object got = OWN.get(name).invoke(court, arguments);
        Object want = MODEL.get(name).invoke(model, arguments);
        run.add(name + Arrays.toString(arguments) + " -> " + got);
        if (!got.equals(want)) {
            wrong++;
            run.forEach(System.out::println);
            System.out.println("due is " + want);
        }
    }

    void call(String name, int[] numbers) throws Exception {
        Object[] arguments = new Object[numbers.length];
        for (int i = 0; i < numbers.length; i++) {
            arguments[i] = numbers[i];
        }
        if (name.equals("feed") && numbers.length > 0) {
            arguments[0] = (long) numbers[0];
        }
        call(name, arguments);
    }

    /** Calls as they are written: each a name and its numbers, with a semicolon between two. */
    void calls(String script) throws Exception {
        for (String line : script.split(";")) {
            String[] words = line.trim().split(" ");
            int[] numbers = new int[words.length - 1];
            for (int i = 0; i < numbers.length; i++) {
                numbers[i] = Integer.parseInt(words[i + 1]);
            }
            call(words[0], numbers);
        }
    }

    void feed(String text) throws Exception {
        byte[] bytes = text.getBytes(StandardCharsets.ISO_8859_1);
        for (int at = 0; at < bytes.length; at += 8) {
            int n = Math.min(8, bytes.length - at);
            call("feed", Checks.packed(bytes, at, n), n);
        }
    }
}
