import java.nio.file.Files;
import java.nio.file.Path;
import java.util.regex.Matcher;
import java.util.regex.Pattern;

/** Words and calls that the rules of the language rule out, sought in the source; run from the project's root. */
public final class LanguageTest {
    private static final String[] RULED_OUT = {
        "\\bthrows?\\b", "\\btry\\b", "\\bcatch\\b", "\\bsynchronized\\b", "\\bassert\\b", "->", "::", "\\bpackage\\b",
        "\\bprotected\\b", "Exact\\b", "\\bMath\\.random\\b", "\\bSystem\\.(?!arraycopy\\b)", "\\bThread\\b",
        "\\bObject\\b", "\\bhashCode\\b", "\\bvar\\b", "\\bstatic\\s*\\{", "\\bimport (?!java\\.util\\.Arrays;)",
        "\\[\\]\\[\\]\\[\\]", "\" *\\+", "\\+ *\"", "\\bArrays\\.(?!fill\\b|copyOf\\b|copyOfRange\\b)",
        "\\bInteger\\.(?!bitCount\\b)", "\\bMath\\.(?!min\\b|max\\b|abs\\b)"
    };

    public static void main(String[] args) throws Exception {
        String source = Files.readString(Path.of("src/main/java/PaidWhereMade.java"));
        for (int i = 0; i < source.length(); i++) {
            Due.is("sign at " + i, source.charAt(i) < 128, true);
        }
        String code = source.replaceAll("(?s)/\\*.*?\\*/", " ").replaceAll("//[^\n]*", " ");
        for (String rule : RULED_OUT) {
            Matcher m = Pattern.compile(rule).matcher(code);
            Due.is("ruled out: " + rule, m.find(), false);
        }
        methodsAreShort(source);
        Due.finish();
    }

    private static void methodsAreShort(String source) {
        int begin = -1;
        int line = 0;
        for (String text : source.split("\n")) {
            line++;
            if (text.matches(" {4,8}[a-z].*\\) \\{")) {
                begin = line;
            }
            if (text.matches(" {4,8}\\}") && begin > 0) {
                Due.is("method at line " + begin + " is short", line - begin <= 60, true);
                begin = -1;
            }
        }
    }
}
