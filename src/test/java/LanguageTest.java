import java.io.IOException;
import java.nio.file.Files;
import java.nio.file.Path;
import java.util.regex.Matcher;
import java.util.regex.Pattern;

/** What a look at the text can tell of LANGUAGE.md: words that its rules leave no room for. */
final class LanguageTest {
    private static final String[] FORBIDDEN = {
        "->", "::", "\\bfinally\\b", "\\bsynchronized\\b", "\\bassert\\b", "\\bcatch\\b", "\\bpackage\\b",
        "\\bNaN\\b", "Exact\\(", "\\bThread\\b", "\\bRandom\\b", "\\bgetClass\\b", "\\bhashCode\\b",
        "System\\.(?!arraycopy\\b)", "Arrays\\.(?!copyOf\\b|copyOfRange\\b|fill\\b)",
        "(Integer|Long)\\.[A-Z]", "Math\\.(?!max\\b|min\\b|abs\\b|floorDiv\\b|floorMod\\b)",
        "import (?!java\\.util\\.(Arrays|ArrayList|List);)", "[^\\x00-\\x7f]",
    };

    private LanguageTest() {
    }

    public static void main(String[] args) throws IOException {
        String text = Files.readString(Path.of("src/main/java/BellRoster.java"));
        String bare = text.replaceAll("(?s)/\\*.*?\\*/", "").replaceAll("//[^\n]*", "");
        for (String word : FORBIDDEN) {
            Matcher found = Pattern.compile(word).matcher(bare);
            Check.due("uses of " + word, found.results().count(), 0);
        }
        String thrown = bare.replaceAll("throw new (IndexOutOfBounds|IllegalArgument|IllegalState)Exception\\(\"[^\"]*\"\\);", "");
        Check.due("other throws", Pattern.compile("\\bthrow\\b").matcher(thrown).results().count(), 0);
        methodLengths(bare);
        Check.finish();
    }

    private static void methodLengths(String bare) {
        int since = 0;
        int lineNumber = 0;
        for (String line : bare.split("\n")) {
            lineNumber++;
            if (line.isBlank()) {
                since = lineNumber;
            }
            Check.due("line " + lineNumber + " stands in a short method", lineNumber - since <= 60 ? 1 : 0, 1);
        }
    }
}
