import java.io.IOException;
import java.lang.reflect.Constructor;
import java.lang.reflect.Method;
import java.lang.reflect.Modifier;
import java.nio.file.Files;
import java.nio.file.Path;
import java.util.Set;
import java.util.TreeSet;
import java.util.regex.Matcher;
import java.util.regex.Pattern;

/** The class has the face that the document tells, with its exceptions, and no more. */
public final class FaceTest {
    private static final Pattern METHOD =
            Pattern.compile("^ {4}public (\\w+) (\\w+)\\(([^)]*)\\)(?: throws ([\\w, ]+))?;$");

    private FaceTest() {
    }

    public static void main(String[] args) throws IOException {
        Check check = new Check("FaceTest");
        Set<String> due = told();
        check.same("methods that the document tells", due.size(), 45);
        check.same("methods", found(check), due);
        constructors(check);
        check.same("public and final", Modifier.toString(Writeback.class.getModifiers()), "public final");
        check.end();
    }

    private static Set<String> told() throws IOException {
        Set<String> lines = new TreeSet<>();
        for (String line : Files.readAllLines(Path.of("../shared/DOC.md"))) {
            Matcher matcher = METHOD.matcher(line);
            if (matcher.matches()) {
                String types = matcher.group(3).replaceAll("(\\w+) \\w+", "$1");
                Set<String> thrown = new TreeSet<>();
                if (matcher.group(4) != null) {
                    thrown.addAll(Set.of(matcher.group(4).split(", ")));
                }
                lines.add(matcher.group(1) + " " + matcher.group(2) + "(" + types + ") " + thrown);
            }
        }
        return lines;
    }

    private static Set<String> found(Check check) {
        Set<String> open = new TreeSet<>();
        Set<String> names = new TreeSet<>();
        for (Method method : Writeback.class.getDeclaredMethods()) {
            if (Modifier.isPublic(method.getModifiers())) {
                open.add(text(method));
                names.add(method.getName());
            }
        }
        for (Method method : Writeback.class.getDeclaredMethods()) {
            boolean hidden = Modifier.isPrivate(method.getModifiers()) || method.isSynthetic();
            if (!Modifier.isPublic(method.getModifiers())) {
                check.same(method + " is private", hidden, true);
                check.same(method + " bears a name of its own", names.contains(method.getName()), false);
            }
        }
        return open;
    }

    private static String text(Method method) {
        StringBuilder types = new StringBuilder();
        for (Class<?> type : method.getParameterTypes()) {
            types.append(types.length() == 0 ? "" : ", ").append(type.getSimpleName());
        }
        Set<String> thrown = new TreeSet<>();
        for (Class<?> type : method.getExceptionTypes()) {
            thrown.add(type.getSimpleName());
        }
        return method.getReturnType().getSimpleName() + " " + method.getName() + "(" + types + ") " + thrown;
    }

    private static void constructors(Check check) {
        Constructor<?>[] all = Writeback.class.getDeclaredConstructors();
        check.same("constructors", all.length, 1);
        check.same("constructor", all[0].toString(), "public Writeback()");
    }
}
