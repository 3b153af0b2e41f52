import java.io.IOException;
import java.nio.file.Files;
import java.nio.file.Path;
import java.util.regex.Matcher;
import java.util.regex.Pattern;

/** What can be read from the program's text of LANGUAGE.md's rules 2, 4, 5, 6 and 10. Runs in the project's folder. */
public final class SourceTest {
    private static final String[] RULED_OUT = {
        "->", "::", "\\bcatch\\b", "\\btry\\b", "\\bfinally\\b", "\\bassert\\b", "\\bsynchronized\\b", "\\bvar\\b",
        "\\bpackage\\b", "Exact\\(", "\\bstatic\\s*\\{", "\\bSystem\\.(?!arraycopy)", "\"\\s*\\+", "\\+\\s*\"",
        "\\b(Object|Thread|Random|Scanner|HashMap|Map|Set|Optional|Collections)\\b", "[^\\n\\x20-\\x7e]",
        "Math\\.(?!floorDiv|floorMod|min|max|abs|compare)",
        "throw (?!new (IllegalStateException|IllegalArgumentException|IndexOutOfBoundsException"
            + "|UnsupportedOperationException|NoSuchElementException)\\()",
    };

    public static void main(String[] args) throws IOException {
        Checks checks = new Checks();
        String text = Files.readString(Path.of("src/main/java/Replen.java"));
        for (String rule : RULED_OUT) {
            Matcher matcher = Pattern.compile(rule).matcher(text);
            checks.same(rule, matcher.find() ? "stands at " + matcher.start() : "nowhere", "nowhere");
        }
        Matcher imports = Pattern.compile("(?m)^import (.*);$").matcher(text);
        while (imports.find()) {
            checks.same("imports", imports.group(1), "java.util.NoSuchElementException");
        }
        checks.end();
    }
}
