import java.io.IOException;
import java.nio.file.Files;
import java.nio.file.Path;
import java.util.Arrays;
import java.util.HashSet;
import java.util.Set;
import java.util.regex.Matcher;
import java.util.regex.Pattern;

/** The rules of LANGUAGE.md that the words of the source can tell; it runs in the project's folder. */
public final class LanguageTest {
    private static final String[] FORBIDDEN_WORDS = {"throw", "throws", "try", "catch", "finally", "synchronized",
        "assert", "package", "hashCode", "native", "volatile", "transient", "Thread", "Random", "Object"};
    private static final Set<String> IMPORTS = Set.of("java.util.ArrayList", "java.util.List", "java.util.Arrays",
        "java.util.Iterator");
    /** The rule says 'some sixty', so a few more are no fault. */
    private static final int MOST_LINES = 66;
    private static final Checks CHECKS = new Checks("LanguageTest");

    public static void main(String[] args) throws IOException {
        String code = withoutTexts(Files.readString(Path.of("src/main/java/EyeBoard.java")));
        words(code);
        imports(code);
        methodLengths(code);
        CHECKS.end();
    }

    private static String withoutTexts(String code) {
        String bare = code.replaceAll("(?s)/\\*.*?\\*/", "").replaceAll("//[^\n]*", "");
        return bare.replaceAll("\"[^\"\n]*\"", "\"\"");
    }

    private static void holds(String what, boolean is) {
        CHECKS.due(what, is ? 1 : 0, 1);
    }

    private static void words(String code) {
        Set<String> words = new HashSet<>(Arrays.asList(code.split("[^A-Za-z0-9_]+")));
        for (String word : FORBIDDEN_WORDS) {
            holds("the source does without '" + word + "'", !words.contains(word));
        }
        for (String word : words) {
            holds("the source does without " + word, !word.endsWith("Exact") && !word.endsWith("Exception"));
        }
        holds("no method reference", !code.contains("::"));
        holds("no toString of its own", !Pattern.compile("String\\s+toString\\s*\\(").matcher(code).find());
    }

    private static void imports(String code) {
        Matcher matcher = Pattern.compile("import\\s+([^;]+);").matcher(code);
        while (matcher.find()) {
            holds("import of " + matcher.group(1), IMPORTS.contains(matcher.group(1).trim()));
        }
    }

    private static void methodLengths(String code) {
        int begin = -1;
        String[] lines = code.split("\n", -1);
        for (int i = 0; i < lines.length; i++) {
            if (lines[i].matches("\\s+[\\w\\[\\] ]+ \\w+\\([^;]*\\) \\{")) {
                begin = i;
            }
            boolean ends = begin >= 0 && lines[i].equals(lines[begin].replaceAll("\\S.*", "") + "}");
            if (ends) {
                holds("a method of some sixty lines at most at line " + (begin + 1), i - begin <= MOST_LINES);
                begin = -1;
            }
        }
    }
}
