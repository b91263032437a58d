import java.io.IOException;
import java.lang.reflect.InvocationTargetException;
import java.lang.reflect.Method;
import java.nio.file.DirectoryStream;
import java.nio.file.Files;
import java.nio.file.Path;
import java.util.HashMap;
import java.util.Map;
import java.util.regex.Matcher;
import java.util.regex.Pattern;

/** What README.md says holds. It is run from the project's folder. */
public final class ReadmeTest {
    private static final String CREATES = "DrumTowns land = new DrumTowns();";
    private static final Pattern BLOCK = Pattern.compile("(?s)```java\n(.*?)```");
    private static final Pattern CALL = Pattern.compile(
            "(?:int (\\w+) = )?land\\.(\\w+)\\(([^)]*)\\); +// (throws \\w+|-?[\\d.]+)(?::.*)?");

    private static final Checks CHECKS = new Checks();

    private final DrumTowns land = new DrumTowns();
    private final Map<String, Integer> names = new HashMap<>();

    public static void main(String[] args) throws IOException, ReflectiveOperationException {
        String page = Files.readString(Path.of("README.md"));
        Matcher block = BLOCK.matcher(page);
        if (block.find()) {
            new ReadmeTest().follow(block.group(1));
        } else {
            CHECKS.report("README.md has no example");
        }
        checkNames(page);
        CHECKS.end();
    }

    private void follow(String example) throws ReflectiveOperationException {
        for (String line : example.split("\n")) {
            Matcher call = CALL.matcher(line);
            if (call.matches()) {
                String got = answer(call.group(2), call.group(3));
                CHECKS.dueText(line, call.group(4), got);
                if (call.group(1) != null) {
                    names.put(call.group(1), Integer.parseInt(got));
                }
            } else if (!line.isEmpty() && !line.equals(CREATES)) {
                CHECKS.report("README.md says nothing of the answer: " + line);
            }
        }
    }

    private String answer(String name, String told) throws ReflectiveOperationException {
        String[] parts = told.isEmpty() ? new String[0] : told.split(", ");
        Object[] numbers = new Object[parts.length];
        Class<?>[] types = new Class<?>[parts.length];
        for (int i = 0; i < parts.length; i++) {
            numbers[i] = valueOf(parts[i]);
            types[i] = int.class;
        }
        Method method = DrumTowns.class.getMethod(name, types);
        try {
            return String.valueOf(method.invoke(land, numbers));
        } catch (InvocationTargetException e) {
            return "throws " + e.getCause().getClass().getSimpleName();
        }
    }

    private int valueOf(String told) {
        if (told.startsWith("'")) {
            return told.charAt(1);
        }
        return names.containsKey(told) ? names.get(told) : Integer.parseInt(told);
    }

    private static void checkNames(String page) throws IOException {
        try (DirectoryStream<Path> tests = Files.newDirectoryStream(Path.of("src/test/java"), "*Test.java")) {
            for (Path test : tests) {
                checkNamed(page, test.getFileName().toString().replace(".java", ""));
            }
        }
        for (Method method : DrumTowns.class.getMethods()) {
            if (method.getDeclaringClass() == DrumTowns.class) {
                checkNamed(page, method.getName());
            }
        }
    }

    private static void checkNamed(String page, String name) {
        if (!page.contains("`" + name + "`")) {
            CHECKS.report("README.md does not name " + name);
        }
    }
}
