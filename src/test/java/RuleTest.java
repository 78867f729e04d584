import java.lang.reflect.Constructor;
import java.lang.reflect.Field;
import java.lang.reflect.Method;
import java.lang.reflect.Modifier;
import java.nio.file.Files;
import java.nio.file.Path;
import java.util.ArrayList;
import java.util.List;
import java.util.Set;
import java.util.TreeSet;
import java.util.regex.Matcher;
import java.util.regex.Pattern;

/** What can be seen of the rules of LANGUAGE.md, and the face that DOC.md tells. */
public final class RuleTest {
    private static final Check CHECK = new Check("RuleTest");

    public static void main(String[] args) throws Exception {
        face();
        members();
        String source = Files.readString(Path.of("src/main/java/NoKnot.java"));
        words(source);
        methods(source);
        CHECK.end();
    }

    private static void face() throws Exception {
        Set<String> want = new TreeSet<>();
        String doc = Files.readString(Path.of("../shared/DOC.md"));
        String face = doc.substring(doc.indexOf("```java"), doc.indexOf("## Terms"));
        Matcher m = Pattern.compile("public (\\w+) (\\w+)\\((.*)\\);").matcher(face);
        while (m.find()) {
            want.add(m.group(1) + " " + m.group(2) + "(" + m.group(3).replaceAll(" \\w+(,|$)", "$1") + ")");
        }
        Set<String> has = new TreeSet<>();
        for (Method method : NoKnot.class.getDeclaredMethods()) {
            if (Modifier.isPrivate(method.getModifiers())) continue;
            List<String> types = new ArrayList<>();
            for (Class<?> type : method.getParameterTypes()) types.add(type.getSimpleName());
            has.add(method.getReturnType().getSimpleName() + " " + method.getName() + "(" + String.join(", ", types) + ")");
            CHECK.is("public and not static " + method, method.getModifiers(), Modifier.PUBLIC);
        }
        CHECK.is("methods of the document", want.size(), 56);
        CHECK.is("methods: " + want + " but " + has, has.equals(want) ? 1 : 0, 1);
        CHECK.is("the class", NoKnot.class.getModifiers(), Modifier.PUBLIC | Modifier.FINAL);
        Constructor<?>[] constructors = NoKnot.class.getDeclaredConstructors();
        CHECK.is("one constructor", constructors.length, 1);
        CHECK.is("without arguments", constructors[0].getParameterCount(), 0);
        CHECK.is("public", constructors[0].getModifiers(), Modifier.PUBLIC);
    }

    private static void members() {
        Set<String> open = new TreeSet<>();
        for (Method method : NoKnot.class.getDeclaredMethods()) {
            if (Modifier.isPublic(method.getModifiers())) open.add(method.getName());
        }
        List<Class<?>> classes = new ArrayList<>(List.of(NoKnot.class.getDeclaredClasses()));
        CHECK.is("classes", classes.size() <= 12 ? 1 : 0, 1);
        for (Class<?> inside : classes) CHECK.is("static " + inside, Modifier.isStatic(inside.getModifiers()) ? 1 : 0, 1);
        for (Field field : NoKnot.class.getDeclaredFields()) {
            boolean fine = Modifier.isPrivate(field.getModifiers()) || field.getName().equals("NONE");
            CHECK.is("private " + field, fine ? 1 : 0, 1);
        }
        classes.add(NoKnot.class);
        for (Class<?> each : classes) {
            int fields = 0;
            for (Field field : each.getDeclaredFields()) {
                boolean fixed = Modifier.isStatic(field.getModifiers());
                if (fixed) CHECK.is("final " + field, Modifier.isFinal(field.getModifiers()) ? 1 : 0, 1);
                fields += fixed ? 0 : 1;
            }
            CHECK.is("fields of " + each, fields <= 20 ? 1 : 0, 1);
            for (Method method : each.getDeclaredMethods()) {
                CHECK.is("parameters of " + method, method.getParameterCount() <= 7 ? 1 : 0, 1);
                boolean other = each == NoKnot.class && Modifier.isPublic(method.getModifiers());
                CHECK.is("no public one's name " + method, other || !open.contains(method.getName()) ? 1 : 0, 1);
            }
        }
    }

    private static String bare(String source) {
        String code = source.replaceAll("(?s)/\\*.*?\\*/", " ").replaceAll("//[^\n]*", " ");
        return code.replaceAll("\"[^\"\n]*\"", "\"\"").replaceAll("'\\\\?.'", "' '");
    }

    private static void words(String source) {
        String code = bare(source);
        String[] never = {"\\b(throw|throws|try|catch|finally|synchronized|assert|volatile|var|yield)\\b", "->", "::",
            "Exact\\b", "\\b(Random|Thread|System\\.(?!arraycopy)\\w+|Runtime|File|Object)\\b", "\\bpackage\\b", "@\\w+",
            "\\.(hashCode|toString|equals|getClass|values)\\(", "\\bstatic\\s*\\{", "\\bimport (?!java\\.util\\.(Arrays|ArrayList|List);)",
            "\\b(Integer|Long)\\.(?!bitCount)\\w+", "\\bMath\\.(?!(max|min|abs|floorMod)\\()\\w+", "\\bArrays\\.(?!fill\\()\\w+"};
        for (String pattern : never) {
            Matcher m = Pattern.compile(pattern).matcher(code);
            CHECK.is(pattern, m.find() ? 1 : 0, 0);
        }
        for (int k = 0; k < source.length(); k++) {
            if (source.charAt(k) > 126) CHECK.is("sign at " + k, source.charAt(k), ' ');
        }
    }

    /** Methods of some sixty lines: no stretch between a method's head and its end is longer. */
    private static void methods(String source) {
        String[] lines = source.split("\n");
        for (int at = 0; at < lines.length; at++) {
            Matcher head = Pattern.compile("^( {4,8})(?!static final class|private static final class).*\\) \\{$").matcher(lines[at]);
            if (!head.find() || lines[at].contains(" class ") || lines[at].matches("^ +(if|for|while|switch|\\}).*")) continue;
            int end = at;
            while (end < lines.length && !lines[end].equals(head.group(1) + "}")) end++;
            CHECK.is("lines of " + lines[at].trim(), end - at <= 60 ? 1 : 0, 1);
        }
    }
}
