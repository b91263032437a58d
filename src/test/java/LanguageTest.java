import java.io.IOException;
import java.lang.reflect.Constructor;
import java.lang.reflect.Field;
import java.lang.reflect.Method;
import java.lang.reflect.Modifier;
import java.nio.file.Files;
import java.nio.file.Path;
import java.util.ArrayList;
import java.util.List;
import java.util.Set;
import java.util.regex.Matcher;
import java.util.regex.Pattern;

/** The rules of LANGUAGE.md that can be seen from the source or its members. It is run from the project's folder. */
public final class LanguageTest {
    private static final String[] FORBIDDEN = {
        "\\bimport\\b", "\\bpackage\\b", "\\btry\\b", "\\bcatch\\b", "\\bfinally\\b", "\\bsynchronized\\b",
        "\\bassert\\b", "->", "::", "static\\s*\\{", "\\bvar\\b", "\\bprotected\\b", "\\bvolatile\\b",
        "\"\\s*\\+", "\\+\\s*\"", "\\bMath\\.\\w+Exact\\b",
    };
    private static final Pattern LIBRARY = Pattern.compile("\\b([A-Z][a-z]\\w*)\\.(\\w+)");
    private static final String ALLOWED = " System.arraycopy Integer.bitCount Math.min Math.max Math.abs ";
    private static final Pattern THROW = Pattern.compile("\\bthrow\\b[^;]*;");
    private static final Pattern GOOD_THROW = Pattern.compile("throw new (IllegalStateException"
            + "|IllegalArgumentException|IndexOutOfBoundsException)\\((\"[^\"]*\")?\\);");
    private static final Set<Class<?>> TYPES_OF_CONSTANTS = Set.of(int.class, long.class, boolean.class, char.class,
            String.class, int[].class, long[].class, char[].class, byte[].class);
    private static final int MOST_LINES = 60;
    private static final int MOST_CLASSES = 12;
    private static final int MOST_FIELDS = 20;
    private static final int MOST_PARAMETERS = 7;

    private static final Checks CHECKS = new Checks();

    public static void main(String[] args) throws IOException {
        String source = Files.readString(Path.of("src/main/java/DrumTowns.java"));
        String code = source.replaceAll("(?s)/\\*.*?\\*/", "").replaceAll("//[^\n]*", "");
        checkWords(code);
        checkThrows(code);
        checkSigns(source);
        checkLengths(source);
        List<Class<?>> classes = new ArrayList<>(List.of(DrumTowns.class.getDeclaredClasses()));
        classes.add(DrumTowns.class);
        if (classes.size() > MOST_CLASSES) {
            CHECKS.report("rule 11: " + classes.size() + " classes");
        }
        for (Class<?> type : classes) {
            checkFields(type);
            checkMethods(type);
        }
        CHECKS.end();
    }

    private static void checkWords(String code) {
        for (String word : FORBIDDEN) {
            if (Pattern.compile(word).matcher(code).find()) {
                CHECKS.report("the source has what LANGUAGE.md leaves out: " + word);
            }
        }
        Matcher library = LIBRARY.matcher(code);
        while (library.find()) {
            if (!ALLOWED.contains(" " + library.group() + " ")) {
                CHECKS.report("rule 4: not known to be in the library: " + library.group());
            }
        }
    }

    private static void checkThrows(String code) {
        Matcher thrown = THROW.matcher(code);
        while (thrown.find()) {
            if (!GOOD_THROW.matcher(thrown.group()).matches()) {
                CHECKS.report("rule 6: " + thrown.group());
            }
        }
    }

    private static void checkSigns(String source) {
        for (int i = 0; i < source.length(); i++) {
            if (source.charAt(i) > 126 || source.charAt(i) < 32 && source.charAt(i) != '\n') {
                CHECKS.report("rule 4: the sign " + (int) source.charAt(i) + " at " + i);
            }
        }
    }

    private static void checkLengths(String source) {
        int length = 0;
        for (String line : source.split("\n")) {
            boolean opens = line.matches("    (    )?(public|private)? ?(static )?[\\w\\[\\]]+ \\w+\\(.*");
            length = opens ? 0 : length + 1;
            if (length > MOST_LINES && line.matches("    (    )?\\}")) {
                CHECKS.report("rule 11: a method of " + length + " lines ends by: " + line);
            }
        }
    }

    /** Rule 5 tells the types of static fields, which leave double and float out; rule 3 those of the others. */
    private static void checkFields(Class<?> type) {
        int fields = 0;
        for (Field field : type.getDeclaredFields()) {
            if (!Modifier.isStatic(field.getModifiers())) {
                fields++;
                checkField(field);
            } else if (!Modifier.isFinal(field.getModifiers()) || !TYPES_OF_CONSTANTS.contains(field.getType())) {
                CHECKS.report("rule 5: " + field);
            }
        }
        if (fields > MOST_FIELDS) {
            CHECKS.report("rule 11: " + fields + " fields in " + type);
        }
    }

    private static void checkField(Field field) {
        Class<?> part = field.getType();
        int dimensions = 0;
        while (part.isArray()) {
            part = part.getComponentType();
            dimensions++;
        }
        boolean own = part.getNestHost() == DrumTowns.class;
        if (!part.isPrimitive() && !own || dimensions > (own ? 1 : 2)) {
            CHECKS.report("rule 3: " + field);
        }
    }

    private static void checkMethods(Class<?> type) {
        for (Method method : type.getDeclaredMethods()) {
            if (method.getParameterCount() > MOST_PARAMETERS || method.isSynthetic()) {
                CHECKS.report("rule 11, or a method that the compiler made: " + method);
            }
        }
        for (Constructor<?> constructor : type.getDeclaredConstructors()) {
            if (constructor.getParameterCount() > MOST_PARAMETERS) {
                CHECKS.report("rule 11: " + constructor);
            }
        }
    }
}
