import java.io.IOException;
import java.lang.reflect.Method;
import java.lang.reflect.Modifier;
import java.nio.charset.StandardCharsets;
import java.nio.file.Files;
import java.nio.file.Paths;
import java.util.Set;
import java.util.TreeSet;
import java.util.regex.Matcher;
import java.util.regex.Pattern;

// The examples of README.md: each call answers what stands beside it. It is run from the project's directory.
public final class ReadmeTests {
    private static final String MADE = "IndependenceRows x = new IndependenceRows();";
    private static final Pattern CALL = Pattern.compile("x\\.(\\w+)\\(([^)]*)\\);\\s+// (-?\\w+).*");
    private static int wrong = 0;

    private static void say(String what) {
        wrong++;
        System.out.println(what);
    }

    private static int number(String word) throws ReflectiveOperationException {
        if (Character.isUpperCase(word.charAt(0))) {
            return IndependenceRows.class.getField(word).getInt(null);
        }
        return word.startsWith("0b") ? Integer.parseInt(word.substring(2), 2) : Integer.parseInt(word);
    }

    private static Method named(String name, int arguments) {
        for (Method method : IndependenceRows.class.getDeclaredMethods()) {
            if (Modifier.isPublic(method.getModifiers()) && method.getName().equals(name)
                    && method.getParameterCount() == arguments) {
                return method;
            }
        }
        return null;
    }

    private static void call(IndependenceRows x, Matcher line) throws ReflectiveOperationException {
        String[] words = line.group(2).isEmpty() ? new String[0] : line.group(2).split(", ");
        Object[] arguments = new Object[words.length];
        for (int i = 0; i < words.length; i++) {
            arguments[i] = number(words[i]);
        }
        Method method = named(line.group(1), words.length);
        if (x == null || method == null) {
            say("README.md: no such call: " + line.group());
            return;
        }
        long got = ((Number) method.invoke(x, arguments)).longValue();
        if (got != number(line.group(3))) {
            say("README.md: " + line.group() + " -- answered " + got);
        }
    }

    private static Set<String> runExamples(String[] lines) throws ReflectiveOperationException {
        Set<String> called = new TreeSet<>();
        boolean inside = false;
        IndependenceRows x = null;
        for (String line : lines) {
            if (line.startsWith("```")) {
                inside = line.equals("```java");
                continue;
            }
            Matcher found = CALL.matcher(line);
            if (!inside) {
                continue;
            }
            if (line.equals(MADE)) {
                x = new IndependenceRows();
            } else if (found.matches()) {
                call(x, found);
                called.add(found.group(1));
            } else {
                say("README.md: not a call with its answer: " + line);
            }
        }
        return called;
    }

    public static void main(String[] args) throws IOException, ReflectiveOperationException {
        String text = new String(Files.readAllBytes(Paths.get("README.md")), StandardCharsets.UTF_8);
        Set<String> called = runExamples(text.split("\n"));
        for (Method method : IndependenceRows.class.getDeclaredMethods()) {
            if (Modifier.isPublic(method.getModifiers()) && !called.contains(method.getName())) {
                say("README.md: no example calls " + method.getName());
            }
        }
        if (!text.contains(".ci/run")) {
            say("README.md does not say how the tests are run");
        }
        System.out.println(wrong == 0 ? "the examples are as due" : wrong + " faults");
        if (wrong != 0) {
            System.exit(1);
        }
    }
}
