import java.lang.reflect.Constructor;
import java.lang.reflect.Field;
import java.lang.reflect.Method;
import java.lang.reflect.Modifier;
import java.nio.file.Files;
import java.nio.file.Path;
import java.util.Arrays;
import java.util.List;
import java.util.Set;
import java.util.TreeSet;
import java.util.regex.Matcher;
import java.util.regex.Pattern;

/** The public face, and what LANGUAGE.md says of it and of the words of the program. */
public final class FaceTest {
    private static final String FACE = "as(int,int) ask(int,int) blame(int,int) copy(int,int,int,int,int) count(int) "
        + "court(int,int) dark(int,int,int) done(int,int,int,int) door(int,int,int) drop(int) "
        + "fact(int,int,int,int,int,int,int,int) fault() feed(long,int) hole(int,int,int) hull(int,int) kind(int) "
        + "nearest(int,int,int) order(int,int,int,int) other(int,int) owes(int,int,int) quarrel(int,int,int,int,int) "
        + "rules() set(int,int,int) sheet(int,int,int) ship(int,int) sinks() status() sure(int,int) "
        + "tide(int,int,int,int) trace(int) water(int,int) where(int,int,int) withdraw(int,int)";
    private static final List<String> RULED_OUT = List.of("throw", "throws", "try", "catch", "synchronized", "assert",
        "volatile", "native", "hashCode", "toString", "System.out", "Exact(", "->", "::", "double", "float", "var ");
    private static final Set<String> LIBRARY = Set.of("Arrays.fill", "Integer.bitCount",
        "Integer.numberOfTrailingZeros", "Math.abs", "Math.max", "Math.min", "System.arraycopy");

    public static void main(String[] args) throws Exception {
        constants();
        methods();
        members();
        staticFields();
        words();
        Checks.end();
    }

    private static void constants() {
        Checks.due("NONE", WreckCourt.NONE, -1000000);
        Checks.due("BAD", WreckCourt.BAD, -1000001);
        Checks.due("STATE", WreckCourt.STATE, -1000002);
        Checks.due("FULL", WreckCourt.FULL, -1000003);
    }

    private static void same(String what, String got, String want) {
        if (!got.equals(want)) {
            System.out.println(what + ": " + got + ", due is " + want);
        }
        Checks.due(what, got.equals(want) ? 1 : 0, 1);
    }

    private static void methods() {
        Set<String> face = new TreeSet<>();
        for (Method method : WreckCourt.class.getDeclaredMethods()) {
            if (!Modifier.isPrivate(method.getModifiers())) {
                same("answer of " + method.getName(), method.getReturnType().getName(), "int");
                same("kind of " + method.getName(), Modifier.toString(method.getModifiers()), "public");
                String types = Arrays.toString(Arrays.stream(method.getParameterTypes()).map(Class::getName).toArray());
                face.add(method.getName() + "(" + types.substring(1, types.length() - 1).replace(" ", "") + ")");
            }
        }
        same("the face", String.join(" ", face), FACE);
        namesOfItsOwn(WreckCourt.class);
        for (Class<?> one : WreckCourt.class.getDeclaredClasses()) {
            namesOfItsOwn(one);
        }
    }

    private static void namesOfItsOwn(Class<?> one) {
        for (Method method : one.getDeclaredMethods()) {
            if (!Modifier.isPublic(method.getModifiers())) {
                same("no face's name", (" " + FACE).contains(" " + method.getName() + "(") ? method.getName() : "", "");
            }
        }
    }

    private static void members() {
        same("the class", Modifier.toString(WreckCourt.class.getModifiers()), "public final");
        Constructor<?>[] made = WreckCourt.class.getDeclaredConstructors();
        Checks.due("constructors", made.length, 1);
        Checks.due("its parameters", made[0].getParameterCount(), 0);
        Set<String> shown = new TreeSet<>();
        for (Field field : WreckCourt.class.getDeclaredFields()) {
            if (!Modifier.isPrivate(field.getModifiers())) {
                shown.add(field.getName());
            }
        }
        same("fields that show", shown.toString(), "[BAD, FULL, NONE, STATE]");
        Class<?>[] inside = WreckCourt.class.getDeclaredClasses();
        Checks.due("classes", inside.length <= 11 ? 1 : 0, 1);
        for (Class<?> one : inside) {
            Checks.due("static: " + one.getName(), Modifier.isStatic(one.getModifiers()) ? 1 : 0, 1);
            Checks.due("not public: " + one.getName(), Modifier.isPublic(one.getModifiers()) ? 1 : 0, 0);
        }
    }

    private static void staticFields() {
        for (Class<?> one : WreckCourt.class.getDeclaredClasses()) {
            fieldsOf(one);
        }
        fieldsOf(WreckCourt.class);
    }

    private static void fieldsOf(Class<?> one) {
        int own = 0;
        for (Field field : one.getDeclaredFields()) {
            if (Modifier.isStatic(field.getModifiers())) {
                Checks.due("final: " + field.getName(), Modifier.isFinal(field.getModifiers()) ? 1 : 0, 1);
            } else {
                own++;
            }
        }
        Checks.due("fields of " + one.getName(), own <= 20 ? 1 : 0, 1);
        for (Method method : one.getDeclaredMethods()) {
            int most = method.getName().equals("fact") ? 8 : 7;
            Checks.due("parameters of " + method.getName(), method.getParameterCount() <= most ? 1 : 0, 1);
        }
    }

    private static void words() throws Exception {
        String source = Files.readString(Path.of(System.getProperty("source", "src/main/java/WreckCourt.java")));
        String code = source.replaceAll("(?s)/\\*.*?\\*/", "").replaceAll("//[^\n]*", "");
        for (String word : RULED_OUT) {
            String edge = Character.isLetter(word.charAt(0)) ? "\\b" : "";
            String end = Character.isLetter(word.charAt(word.length() - 1)) ? "\\b" : "";
            Matcher found = Pattern.compile(edge + Pattern.quote(word) + end).matcher(code);
            same("ruled out", found.find() ? word : "", "");
        }
        Checks.due("signs above 127", (int) source.chars().filter(c -> c > 127).count(), 0);
        methodLengths(code);
        library(code);
    }

    /** What the program takes from the library is known here by name: whoever takes more looks at LANGUAGE.md first. */
    private static void library(String code) {
        Matcher taken = Pattern.compile("(?m)^import (.*);$").matcher(code);
        while (taken.find()) {
            same("imported", taken.group(1), "java.util.Arrays");
        }
        Matcher called = Pattern.compile("\\b(?:[A-Z][a-z]+)\\.\\w+(?=\\()").matcher(code);
        while (called.find()) {
            same("of the library", LIBRARY.contains(called.group()) ? "" : called.group(), "");
        }
    }

    /** A method begins with four or eight spaces and an open brace at its line's end, and ends where its brace stands. */
    private static void methodLengths(String code) {
        Matcher method = Pattern.compile("(?m)^( {4}| {8})([a-z][^\n;=]*\\)) \\{\n(?s:(.*?))^\\1\\}").matcher(code);
        int looked = 0;
        while (method.find()) {
            looked++;
            Checks.due("lines of " + method.group(2), method.group(3).split("\n").length <= 60 ? 1 : 0, 1);
        }
        Checks.due("methods were looked at", looked > 100 ? 1 : 0, 1);
    }
}
