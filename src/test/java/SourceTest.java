import java.io.IOException;
import java.nio.file.Files;
import java.nio.file.Path;
import java.util.List;
import java.util.regex.Matcher;
import java.util.regex.Pattern;

/** What can be seen of LANGUAGE.md in the text of the program, whose path is the argument. */
public final class SourceTest {
    private static final String[] REFUSED = {
        "\\bpackage\\b", "\\btry\\b", "\\bcatch\\b", "\\bfinally\\b", "\\bsynchronized\\b", "\\bassert\\b",
        "->", "::", "Exact\\b", "\\bNaN\\b", "\\bRandom\\b", "\\bSystem\\.(?!arraycopy)", "\\bThread\\b",
        "\\bhashCode\\b", "\\bprotected\\b", "\\bstatic\\s*\\{", "\\bwhile\\s*\\(\\s*true", "for\\s*\\(\\s*;",
    };

    public static void main(String[] args) throws IOException {
        Due due = new Due();
        Path path = Path.of(args.length > 0 ? args[0] : "src/main/java/TextOrder.java");
        String code = withoutComments(Files.readString(path));
        for (String refused : REFUSED) {
            due.holds("nothing like " + refused, !Pattern.compile(refused).matcher(code).find());
        }
        due.holds("plain signs only", code.chars().allMatch(c -> c < 128));
        Matcher imports = Pattern.compile("import ([^;]+);").matcher(code);
        while (imports.find()) {
            due.holds("import " + imports.group(1), imports.group(1).equals("java.util.NoSuchElementException"));
        }
        Matcher thrown = Pattern.compile("\\bthrow ([^;]*);").matcher(code);
        while (thrown.find()) {
            due.holds("throw " + thrown.group(1), thrown.group(1).matches("new \\w+Exception\\(\"[^\"]*\"\\)"));
        }
        checkRowsAreMadeOnce(due, code);
        checkShortMethods(due, code.lines().toList());
        due.end();
    }

    private static String withoutComments(String text) {
        return text.replaceAll("(?s)/\\*.*?\\*/", "").replaceAll("//[^\n]*", "");
    }

    /** All calls of a run share one room, so nothing but exceptions is made by calls. */
    private static void checkRowsAreMadeOnce(Due due, String code) {
        for (String line : code.lines().toList()) {
            if (line.contains("new ") && !line.contains("throw new ")) {
                boolean row = line.matches(" {8}(private )?final \\w+\\[\\] \\w+ = new \\w+\\[[^\\]]+\\];");
                boolean part = line.matches(" {8}\\w+ = new [A-Z]\\w+\\(\\);");
                due.holds("made once: " + line.strip(), row || part);
            }
        }
    }

    private static void checkShortMethods(Due due, List<String> lines) {
        int start = -1;
        for (int i = 0; i < lines.size(); i++) {
            String line = lines.get(i);
            boolean opens = line.matches(" {4}( {4})?[\\w\\[\\] ]+\\(.*") && !line.endsWith(";");
            if (opens) {
                start = i;
            }
            if (start >= 0 && line.matches(" {4}( {4})?\\}")) {
                due.holds("short: " + lines.get(start).strip(), i - start < 60);
                start = -1;
            }
        }
    }
}
