import java.lang.reflect.Method;
import java.lang.reflect.Modifier;
import java.net.URL;
import java.net.URLClassLoader;
import java.nio.file.Files;
import java.nio.file.Path;
import java.util.ArrayList;
import java.util.List;
import java.util.regex.Matcher;
import java.util.regex.Pattern;
import javax.tools.ToolProvider;

/** What README.md shows of the class is so: its example is compiled and run, and it names every call. */
public final class ReadmeTest {
    private static final Pattern BLOCK = Pattern.compile("(?s)```java\n(.*?)```");
    private static final Pattern ANSWERED =
        Pattern.compile("(?m)^(?:int (\\w+) = )?(court\\.\\w+\\(.*\\)); +// (NONE|-?\\d+)(?:: .*)?$");

    public static void main(String[] args) throws Exception {
        String readme = Files.readString(Path.of("README.md"));
        namesEveryCall(readme);
        List<String> blocks = new ArrayList<>();
        Matcher block = BLOCK.matcher(readme);
        while (block.find()) {
            blocks.add(block.group(1));
        }
        Checks.due("Java in README.md: an example and its helper", blocks.size(), 2);
        if (blocks.size() == 2) {
            everyCallIsAnswered(blocks.get(0));
            lookAt(blocks.get(0), answers(program(blocks.get(0), blocks.get(1))));
        }
        Checks.end();
    }

    private static void namesEveryCall(String readme) {
        for (Method method : WreckCourt.class.getDeclaredMethods()) {
            if (Modifier.isPublic(method.getModifiers())) {
                boolean named = readme.contains("`" + method.getName() + "`");
                Checks.due("README.md names " + method.getName(), named ? 1 : 0, 1);
            }
        }
    }

    /** A line whose answer can't be read would be run, but never looked at. */
    private static void everyCallIsAnswered(String example) {
        for (String line : example.split("\n")) {
            if (line.contains("court.")) {
                Checks.due("an answer stands in: " + line, ANSWERED.matcher(line).matches() ? 1 : 0, 1);
            }
        }
    }

    /** The example as a method that answers all that its calls answered. */
    private static String program(String example, String helper) {
        StringBuilder body = new StringBuilder();
        Matcher line = ANSWERED.matcher(example);
        while (line.find()) {
            String name = line.group(1);
            String call = line.group(2);
            String kept = name == null ? "all.add(" + call + ");" : "int " + name + " = " + call + "; all.add(" + name + ");";
            line.appendReplacement(body, Matcher.quoteReplacement(kept));
        }
        line.appendTail(body);
        return "public final class Example {\n" + helper + "public static java.util.List<Integer> answers() {\n"
            + "java.util.List<Integer> all = new java.util.ArrayList<>();\n" + body + "return all;\n}\n}\n";
    }

    private static List<?> answers(String program) throws Exception {
        Path folder = Files.createTempDirectory("readme");
        Path file = Files.writeString(folder.resolve("Example.java"), program);
        String path = System.getProperty("java.class.path");
        try (URLClassLoader loader = new URLClassLoader(new URL[] {folder.toUri().toURL()})) {
            int code = ToolProvider.getSystemJavaCompiler().run(null, null, null,
                "-cp", path, "-d", folder.toString(), file.toString());
            Checks.due("the example compiles", code, 0);
            return code != 0 ? List.of() : (List<?>) loader.loadClass("Example").getMethod("answers").invoke(null);
        } finally {
            Files.deleteIfExists(folder.resolve("Example.class"));
            Files.deleteIfExists(file);
            Files.deleteIfExists(folder);
        }
    }

    private static void lookAt(String example, List<?> answers) {
        int looked = 0;
        Matcher line = ANSWERED.matcher(example);
        while (line.find() && looked < answers.size()) {
            int want = line.group(3).equals("NONE") ? WreckCourt.NONE : Integer.parseInt(line.group(3));
            Checks.due("README.md: " + line.group(2), (Integer) answers.get(looked), want);
            looked++;
        }
        Checks.due("answers of the example", looked, answers.size());
        Checks.due("the example was run", looked > 0 ? 1 : 0, 1);
    }
}
