import java.io.IOException;
import java.nio.file.Files;
import java.nio.file.Path;
import java.util.regex.Pattern;

/** The rules of LANGUAGE.md that can be seen in the words of the source. */
final class SourceCheck {
    private static final String[] FORBIDDEN = {
        "->", "::", "\\btry\\b", "\\bcatch\\b", "\\bfinally\\b", "\\bsynchronized\\b", "\\bassert\\b", "\\binstanceof\\b",
        "\\brecord\\b", "static \\{", "\\bpackage\\b", "\\bvar\\b", "\\bprotected\\b", "\\bSystem\\.(?!arraycopy)", "Exact\\(",
        "\\bfloat [a-z]+ =", "\\bdouble [a-z]+ =", "\\bequals\\b", "\\bhashCode\\b", "\\btoString\\b", "\\.ordinal\\b",
    };

    private SourceCheck() {
    }

    static void run(String path) {
        String source;
        try {
            source = Files.readString(Path.of(path));
        } catch (IOException missing) {
            Checks.dueTrue("source: " + path + " can be read", false);
            return;
        }
        String code = source.replaceAll("(?s)/\\*.*?\\*/", "").replaceAll("//[^\\n]*", "").replaceAll("\"[^\"\\n]*\"", "\"\"");
        for (String word : FORBIDDEN) {
            Checks.dueTrue("source: no " + word, !Pattern.compile(word).matcher(code).find());
        }
        Checks.dueText("source: its import", "java.util.NoSuchElementException;", imports(code));
        Checks.dueTrue("source: no text is joined by +", !Pattern.compile("\"\" ?\\+|\\+ ?\"\"").matcher(code).find());
        Checks.dueTrue("source: signs 1 to 127", source.chars().allMatch(sign -> sign > 0 && sign < 128));
    }

    private static String imports(String code) {
        StringBuilder found = new StringBuilder();
        for (String line : code.split("\n")) {
            if (line.startsWith("import ")) {
                found.append(line.substring("import ".length()));
            }
        }
        return found.toString();
    }
}
