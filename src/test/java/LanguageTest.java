import java.io.IOException;
import java.nio.file.Files;
import java.nio.file.Path;
import java.util.regex.Matcher;
import java.util.regex.Pattern;

/** The rules of LANGUAGE.md that a look at the words of the source can tell. */
public final class LanguageTest {
    private static final String[] NEVER = {
        "\\b(throw|throws|try|catch|finally|synchronized|assert|import|package|native|volatile|transient)\\b",
        "\\binstanceof\\b", "->", "::", "Exact\\s*\\(", "@", "\\bSystem\\.(?!arraycopy)", "\\bThread\\b",
        "\\bRandom\\b", "\\b(toString|hashCode|equals)\\b", "\\b(Long|Double|Float|Object|Character)\\b",
        "\\bInteger\\.(?!bitCount\\b)", "\\bMath\\.(?!(abs|max|min)\\b)", "\\bvar\\b", "\\bstatic\\s*\\{"};

    public static void main(String[] args) throws IOException {
        String source = Files.readString(Path.of("src/main/java/CoatBetween.java"));
        String code = source.replaceAll("(?s)/\\*.*?\\*/", "").replaceAll("//[^\n]*", "");
        for (String words : NEVER) {
            Matcher matcher = Pattern.compile(words).matcher(code);
            Check.due("in the source: " + words, matcher.find() ? 1 : 0, 0);
        }
        for (int i = 0; i < source.length(); i++) {
            Check.due("sign at " + i, source.charAt(i) > 126 ? source.charAt(i) : 0, 0);
        }
        methodsAreShort(source);
        Check.end();
    }

    private static void methodsAreShort(String source) {
        int begun = 0;
        String name = "";
        String[] lines = source.split("\n");
        for (int i = 0; i < lines.length; i++) {
            String line = lines[i];
            boolean isHead = line.matches(" {4,8}[a-zA-Z\\[\\] ]+\\(.*\\) \\{");
            if (isHead) {
                begun = i;
                name = line.trim();
                String parameters = line.substring(line.indexOf('(') + 1, line.lastIndexOf(')'));
                int number = parameters.isEmpty() ? 0 : parameters.split(",").length;
                Check.due(name + ": parameters, 7 at most", Math.max(7, number), 7);
            }
            if (line.matches(" {4,8}\\}")) {
                Check.due(name + ": lines, 60 at most", Math.max(60, i - begun + 1), 60);
                begun = i;
            }
        }
    }
}
