import java.io.IOException;
import java.lang.reflect.Constructor;
import java.lang.reflect.Field;
import java.lang.reflect.Method;
import java.lang.reflect.Modifier;
import java.nio.charset.StandardCharsets;
import java.nio.file.Files;
import java.nio.file.Paths;
import java.util.Set;
import java.util.TreeSet;
import java.util.regex.Matcher;
import java.util.regex.Pattern;

// The public face, and what LANGUAGE.md rules out in the source. It is run from the project's directory.
public final class FaceTests {
    private static final String SOURCE = "src/main/java/IndependenceRows.java";
    private static final String[] FACE = {
        "int clear()", "int place()", "int arc(int,int)", "int cut(int,int)", "int odds(int,int,int)",
        "int hold(int,int)", "int told(int,int)", "int of(int,int)", "int separated(int,int,int)",
        "int walk(int,int,int)", "long weight(int,int)", "int independent(int,int,int)",
        "int differ(int,int,int)", "int blanket(int)", "int least(int,int)", "int enough(int,int,int)",
        "int keep()", "int alike()", "int settled(int,int)", "int family()", "int count(int)"
    };
    private static int wrong = 0;

    private static void say(String what) {
        wrong++;
        System.out.println(what);
    }

    private static String sign(Method method) {
        StringBuilder text = new StringBuilder(method.getReturnType() + " " + method.getName() + "(");
        for (Class<?> type : method.getParameterTypes()) {
            text.append(text.charAt(text.length() - 1) == '(' ? "" : ",").append(type);
        }
        return text.append(")").toString();
    }

    private static void methods(Set<String> publicNames) {
        Set<String> due = new TreeSet<>(Set.of(FACE));
        for (Method method : IndependenceRows.class.getDeclaredMethods()) {
            if (Modifier.isPublic(method.getModifiers())) {
                publicNames.add(method.getName());
                if (!due.remove(sign(method))) {
                    say("public, but not in the face: " + sign(method));
                }
            } else if (!Modifier.isPrivate(method.getModifiers())) {
                say("neither public nor private: " + sign(method));
            }
        }
        for (String missing : due) {
            say("missing: " + missing);
        }
    }

    private static void privateNames(Class<?> owner, Set<String> publicNames) {
        for (Method method : owner.getDeclaredMethods()) {
            if (!Modifier.isPublic(method.getModifiers()) && publicNames.contains(method.getName())) {
                say("a private method has a public one's name: " + owner.getName() + " " + method.getName());
            }
            if (method.getParameterCount() > 7) {
                say("too many parameters: " + method.getName());
            }
        }
    }

    private static void fields() {
        Set<String> due = new TreeSet<>(Set.of("NONE", "BAD", "FULL", "JOINED", "RING"));
        for (Field field : IndependenceRows.class.getDeclaredFields()) {
            int is = field.getModifiers();
            if (Modifier.isPublic(is)) {
                if (!due.remove(field.getName()) || !Modifier.isStatic(is) || !Modifier.isFinal(is)) {
                    say("public, but not in the face: " + field.getName());
                }
            } else if (!Modifier.isPrivate(is)) {
                say("neither public nor private: " + field.getName());
            }
            if (Modifier.isStatic(is) && !Modifier.isFinal(is)) {
                say("static, but not final: " + field.getName());
            }
        }
        if (!due.isEmpty()) {
            say("missing: " + due);
        }
    }

    private static void constructors() {
        Constructor<?>[] all = IndependenceRows.class.getDeclaredConstructors();
        if (all.length != 1 || all[0].getParameterCount() != 0 || !Modifier.isPublic(all[0].getModifiers())) {
            say("not just one public constructor without parameters");
        }
        int is = IndependenceRows.class.getModifiers();
        if (!Modifier.isPublic(is) || !Modifier.isFinal(is)) {
            say("the class is not public and final");
        }
    }

    private static void source() throws IOException {
        String text = new String(Files.readAllBytes(Paths.get(SOURCE)), StandardCharsets.UTF_8);
        String code = text.replaceAll("(?s)/\\*.*?\\*/", " ").replaceAll("//[^\n]*", " ");
        Matcher banned = Pattern.compile("\\b(throw|throws|try|catch|finally|synchronized|assert|package|protected"
                + "|native|transient|volatile|null|Exact|Object|System\\.(?!arraycopy)\\w+|Thread|Random|double|float)\\b"
                + "|->|::|while\\s*\\(\\s*true").matcher(code);
        while (banned.find()) {
            say("the source has: " + banned.group());
        }
        Matcher imports = Pattern.compile("import\\s+([^;]+);").matcher(code);
        while (imports.find()) {
            if (!imports.group(1).equals("java.util.Arrays")) {
                say("the source imports: " + imports.group(1));
            }
        }
        // A final field can be set in a constructor alone, so no call makes anything.
        Matcher made = Pattern.compile("(\\w+)?\\s*=?\\s*\\bnew\\s+\\w+").matcher(code);
        while (made.find()) {
            if (made.group(1) == null || !code.matches("(?s).*\\bfinal [\\w\\[\\]]+ " + made.group(1) + ";.*")) {
                say("made outside a constructor: " + made.group());
            }
        }
    }

    public static void main(String[] args) throws IOException {
        Set<String> publicNames = new TreeSet<>();
        methods(publicNames);
        privateNames(IndependenceRows.class, publicNames);
        for (Class<?> inside : IndependenceRows.class.getDeclaredClasses()) {
            privateNames(inside, publicNames);
            if (!Modifier.isStatic(inside.getModifiers())) {
                say("not static: " + inside.getName());
            }
        }
        fields();
        constructors();
        source();
        System.out.println(wrong == 0 ? "the face is as due" : wrong + " faults");
        if (wrong != 0) {
            System.exit(1);
        }
    }
}
