import java.nio.charset.StandardCharsets;
import java.nio.file.Files;
import java.nio.file.Path;
import java.util.regex.Matcher;
import java.util.regex.Pattern;

/**
 * Those rules of ../shared/LANGUAGE.md that a look at the words of the program can tell; it must be
 * run from the folder of the project, as .ci/run does.
 */
final class LanguageTest {
  private static final String[] FORBIDDEN = {
    "^\\s*(package|import)\\b", "->", "::", "\\b(finally|synchronized|assert|goto|native)\\b",
    "\\bcatch\\b", "\\b\\w+Exact\\b", "\\b(Double|Float|Object|Thread|Random|Scanner)\\b",
    "\\bSystem\\.(?!arraycopy\\b)", "\\b(equals|hashCode|toString)\\b", "\\bgetMessage\\b",
    "\\b(char|byte|short|String)\\b.*\\+=", "\"\\s*\\+|\\+\\s*\"", "[^\\x00-\\x7f]", "\\t"
  };
  private static final Pattern THROWN = Pattern.compile("\\bthrow\\b(?! new (IllegalState|"
      + "IllegalArgument|IndexOutOfBounds)Exception\\(\"\"\\);)");

  private static final Check check = new Check("LanguageTest");

  public static void main(String[] args) throws Exception {
    String source = Files.readString(Path.of("src/main/java/PriceIrons.java"),
        StandardCharsets.UTF_8);
    String bare = source.replaceAll("(?s)/\\*.*?\\*/", "").replaceAll("//[^\n]*", "")
        .replaceAll("\"[^\"\n]*\"", "\"\"");
    for (String forbidden : FORBIDDEN) {
      absent(Pattern.compile(forbidden, Pattern.MULTILINE), bare);
    }
    absent(THROWN, bare);
    check.finish();
  }

  private static void absent(Pattern pattern, String source) {
    Matcher matcher = pattern.matcher(source);
    boolean found = matcher.find();
    check.due(pattern + (found ? " at: " + lineAt(source, matcher.start()) : ""), found, false);
  }

  private static String lineAt(String source, int index) {
    int begin = source.lastIndexOf('\n', index) + 1;
    int end = source.indexOf('\n', index);
    return source.substring(begin, end < 0 ? source.length() : end).strip();
  }
}
