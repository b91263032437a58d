import java.io.IOException;
import java.nio.file.Files;
import java.nio.file.Path;
import java.util.regex.Matcher;
import java.util.regex.Pattern;

/** The rules of LANGUAGE.md that can be seen from the words of the source. It is run from the project's folder. */
public final class LanguageTest {
    private static final String[] FORBIDDEN = {
        "\\bimport\\b", "\\bpackage\\b", "\\btry\\b", "\\bcatch\\b", "\\bfinally\\b", "\\bsynchronized\\b",
        "\\bassert\\b", "->", "::", "static\\s*\\{", "\\bvar\\b", "\\bprotected\\b", "\\bvolatile\\b",
        "\"\\s*\\+", "\\+\\s*\"", "\\bMath\\.\\w+Exact\\b",
    };
    private static final Pattern LIBRARY = Pattern.compile("\\b([A-Z][a-z]\\w*)\\.(\\w+)");
    private static final String ALLOWED = " System.arraycopy Integer.bitCount Math.min Math.max Math.abs ";
    private static final int MOST_LINES = 60;

    public static void main(String[] args) throws IOException {
        Checks checks = new Checks();
        String source = Files.readString(Path.of("src/main/java/DrumTowns.java"));
        String code = source.replaceAll("(?s)/\\*.*?\\*/", "").replaceAll("//[^\n]*", "");
        for (String word : FORBIDDEN) {
            if (Pattern.compile(word).matcher(code).find()) {
                checks.report("the source has what LANGUAGE.md leaves out: " + word);
            }
        }
        Matcher library = LIBRARY.matcher(code);
        while (library.find()) {
            if (!ALLOWED.contains(" " + library.group() + " ")) {
                checks.report("not known to be in the library of rule 4: " + library.group());
            }
        }
        checkLengths(checks, source);
        checks.end();
    }

    private static void checkLengths(Checks checks, String source) {
        int length = 0;
        for (String line : source.split("\n")) {
            boolean opens = line.matches("    (    )?(public|private)? ?(static )?[\\w\\[\\]]+ \\w+\\(.*");
            length = opens ? 0 : length + 1;
            if (length > MOST_LINES && line.matches("    (    )?\\}")) {
                checks.report("a method of " + length + " lines ends by: " + line);
            }
        }
    }
}
