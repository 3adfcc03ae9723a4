import java.io.File;
import java.io.IOException;
import java.lang.reflect.InvocationTargetException;
import java.lang.reflect.Method;
import java.lang.reflect.Modifier;
import java.nio.file.Files;
import java.nio.file.Path;
import java.util.HashMap;
import java.util.List;
import java.util.Map;
import java.util.regex.Matcher;
import java.util.regex.Pattern;

/** README.md tells the truth: its example answers as it says, and its tables have each call with its exceptions. */
public final class ReadmeTest {
    private static final Pattern EXAMPLE = Pattern.compile("^house\\.(\\w+)\\((.*)\\);\\s+// (?:throws )?([\\w-]+).*$");
    private static final Pattern ROW = Pattern.compile("^\\| `(\\w+)\\((.*)\\)` \\|([^|]+)\\|([^|]+)\\|([^|]*)\\|$");
    private static final Pattern TOLD = Pattern.compile("^ {4}public \\w+ (\\w+)\\((.*)\\)(?: throws (.+))?;$");

    private static final Pattern CASES = Pattern.compile("^\\| .+ \\| (\\w+Test: .*) \\|$");
    private static final File[] FILES = new File("src/test/java").listFiles();

    private final Check check = new Check("ReadmeTest");
    private final Map<String, Method> face = new HashMap<>();

    private ReadmeTest() {
        for (Method method : Writeback.class.getDeclaredMethods()) {
            if (Modifier.isPublic(method.getModifiers())) {
                face.put(method.getName(), method);
            }
        }
    }

    public static void main(String[] args) throws IOException, IllegalAccessException {
        ReadmeTest test = new ReadmeTest();
        List<String> lines = Files.readAllLines(Path.of("README.md"));
        test.example(lines);
        test.tables(lines);
        test.tests(lines);
        test.check.end();
    }

    private void example(List<String> lines) throws IllegalAccessException {
        Writeback house = new Writeback();
        int calls = 0;
        for (String line : lines) {
            Matcher call = EXAMPLE.matcher(line);
            if (call.matches()) {
                check.same(line, answer(house, face.get(call.group(1)), call.group(2)), call.group(3));
                calls++;
            }
        }
        long written = lines.stream().filter(line -> line.startsWith("house.")).count();
        check.same("each line of the example is a call with its answer", calls > 0 && calls == written, true);
    }

    private static String answer(Writeback house, Method method, String arguments) throws IllegalAccessException {
        String[] texts = arguments.isEmpty() ? new String[0] : arguments.split(", ");
        Object[] values = new Object[texts.length];
        for (int i = 0; i < texts.length; i++) {
            if (texts[i].startsWith("'")) {
                values[i] = texts[i].charAt(1);
            } else {
                values[i] = Integer.valueOf(texts[i]);
            }
        }
        try {
            return String.valueOf(method.invoke(house, values));
        } catch (InvocationTargetException e) {
            return e.getCause().getClass().getSimpleName();
        }
    }

    /** Each call of the document has one row, with its parameters and with its exceptions in the document's order. */
    private void tables(List<String> lines) throws IOException {
        Map<String, String> rows = new HashMap<>();
        for (String line : lines) {
            Matcher row = ROW.matcher(line);
            if (row.matches()) {
                check.same("rows of " + row.group(1), rows.containsKey(row.group(1)), false);
                rows.put(row.group(1), row.group(2) + " throws" + thrown(row.group(5)));
                check.same(row.group(1) + " is told", row.group(3).isBlank() || row.group(4).isBlank(), false);
            }
        }
        check.same("rows", rows.size(), face.size());
        for (String line : Files.readAllLines(Path.of("../shared/DOC.md"))) {
            Matcher told = TOLD.matcher(line);
            if (told.matches()) {
                String due = told.group(2).replaceAll("\\w+ (\\w+)", "$1") + " throws"
                        + (told.group(3) == null ? "" : " " + told.group(3));
                check.same("row of " + told.group(1), rows.get(told.group(1)), due);
            }
        }
    }

    private static String thrown(String cell) {
        StringBuilder names = new StringBuilder();
        Matcher name = Pattern.compile("(?:^|; )([A-Z]\\w+): ").matcher(cell.strip());
        while (name.find()) {
            names.append(names.length() == 0 ? " " : ", ").append(name.group(1)).append("Exception");
        }
        return names.toString();
    }

    /** Each test of the project is told, and each method that the table of boundary cases names is there. */
    private void tests(List<String> lines) throws IOException {
        Map<String, String> texts = new HashMap<>();
        for (File file : FILES) {
            String name = file.getName().replace(".java", "");
            if (name.endsWith("Test")) {
                texts.put(name, Files.readString(file.toPath()));
                boolean told = lines.stream().anyMatch(line -> line.startsWith("| " + name + " |"));
                check.same(name + " is told", told, true);
            }
        }
        int cases = 0;
        for (String line : lines) {
            Matcher cells = CASES.matcher(line);
            if (cells.matches()) {
                cases++;
                for (String part : cells.group(1).split("; ")) {
                    methods(part.split(": ")[0], texts.get(part.split(": ")[0]), part.split(": ")[1].split(", "));
                }
            }
        }
        check.same("boundary cases are told", cases > 0, true);
    }

    private void methods(String test, String text, String[] names) {
        for (String name : names) {
            check.same(test + " has " + name, text != null && text.contains(" void " + name + "("), true);
        }
    }
}
