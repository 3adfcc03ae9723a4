import java.io.IOException;
import java.lang.reflect.Field;
import java.lang.reflect.Method;
import java.lang.reflect.Modifier;
import java.nio.file.Files;
import java.nio.file.Path;
import java.util.ArrayList;
import java.util.List;
import java.util.Set;
import java.util.TreeSet;
import java.util.regex.Matcher;
import java.util.regex.Pattern;

/** The rules of ../shared/LANGUAGE.md, as far as they can be seen from the text and the shape of the class. */
public final class LanguageTest {
    private static final String[] NOT_WRITTEN = {
        "->", "::", "finally", "catch", "synchronized", "assert", "volatile", "transient", "native", "goto",
        "static \\{", "while \\(true\\)", "for \\(;", "getMessage", "System\\.(?!arraycopy)", "Math\\.\\w+Exact",
        "Math\\.(?!abs|max|min)", "Float\\.", "Double\\.", "hashCode", "equals\\(", "toString", "\\bvar\\b",
        "instanceof", "strictfp", "protected", "new [a-z]+\\[\\]\\[", "\" \\+", "\\+ \"", "extends", "implements"
    };
    private static final Set<String> THROWN = Set.of("IllegalStateException", "IllegalArgumentException",
            "IndexOutOfBoundsException", "ArithmeticException", "UnsupportedOperationException",
            "NoSuchElementException");

    private LanguageTest() {
    }

    public static void main(String[] args) throws IOException {
        Check check = new Check("LanguageTest");
        List<String> lines = Files.readAllLines(Path.of("src/main/java/Writeback.java"));
        text(check, String.join("\n", lines));
        length(check, lines);
        List<Class<?>> classes = new ArrayList<>(List.of(Writeback.class));
        classes.addAll(List.of(Writeback.class.getDeclaredClasses()));
        check.same("at most twelve classes", classes.size() <= 12, true);
        for (Class<?> each : classes) {
            shape(check, each);
        }
        check.end();
    }

    private static void text(Check check, String all) {
        String code = all.replaceAll("(?s)/\\*.*?\\*/", "").replaceAll("(?m)//.*$", "");
        String bare = code.replaceAll("\"[^\"]*\"", "\"\"");
        for (String word : NOT_WRITTEN) {
            check.same("written: " + word, Pattern.compile(word).matcher(bare).find(), false);
        }
        Matcher imports = Pattern.compile("(?m)^import (.*);").matcher(code);
        while (imports.find()) {
            check.same("import", imports.group(1), "java.util.NoSuchElementException");
        }
        Matcher thrown = Pattern.compile("throw (new (\\w+)\\(\"[^\"]*\"\\))?").matcher(code);
        while (thrown.find()) {
            boolean clause = code.startsWith("throws", thrown.start());
            check.same("throw " + thrown.group(2), clause || THROWN.contains(String.valueOf(thrown.group(2))), true);
        }
        check.same("signs 9 to 126 alone", all.chars().allMatch(c -> c == '\n' || c >= 32 && c < 127), true);
    }

    /** A method begins at a line that ends with an opening brace and ends at the closing one under its first sign. */
    private static void length(Check check, List<String> lines) {
        Pattern head = Pattern.compile("^( {4}| {8})(?!if|for|else|while|switch)\\S.*[^=] \\{$");
        for (int i = 0; i < lines.size(); i++) {
            Matcher matcher = head.matcher(lines.get(i));
            if (!matcher.matches() || lines.get(i).contains(" class ")) {
                continue;
            }
            int end = lines.subList(i, lines.size()).indexOf(matcher.group(1) + "}");
            check.same("line " + (i + 1) + " begins a method of at most 60 lines", end >= 0 && end < 60, true);
        }
    }

    private static void shape(Check check, Class<?> each) {
        int fields = 0;
        for (Field field : each.getDeclaredFields()) {
            int modifiers = field.getModifiers();
            boolean constant = Modifier.isStatic(modifiers);
            check.same(field + " is final if static", !constant || Modifier.isFinal(modifiers), true);
            fields += constant ? 0 : 1;
            if (each == Writeback.class) {
                check.same(field + " is private", Modifier.isPrivate(modifiers), true);
            }
        }
        check.same(each + " has at most twenty fields", fields <= 20, true);
        Set<String> open = new TreeSet<>();
        for (Method method : Writeback.class.getMethods()) {
            open.add(method.getName());
        }
        for (Method method : each.getDeclaredMethods()) {
            check.same(method + " has at most seven parameters", method.getParameterCount() <= 7, true);
            check.same(method + " bears a name of its own", each != Writeback.class && open.contains(method.getName()),
                    false);
        }
        if (each != Writeback.class) {
            boolean inside = Modifier.isStatic(each.getModifiers()) && !Modifier.isPublic(each.getModifiers());
            check.same(each + " is static and not public", inside, true);
        }
    }
}
