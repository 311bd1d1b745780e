import java.nio.file.Files;
import java.nio.file.Path;
import java.util.regex.Matcher;
import java.util.regex.Pattern;

/** What a look at the source can tell of the language's rules; run from the project's folder. */
public final class LanguageTest {
  private static final String[] FORBIDDEN = {
    "\\bthrow\\b", "\\bthrows\\b", "\\btry\\b", "\\bcatch\\b", "\\bsynchronized\\b", "\\bassert\\b", "->", "::",
    "\\w+Exact\\b", "\\bpackage\\b", "\\bvolatile\\b", "\\bnative\\b", "\\bThread\\b", "\\bRandom\\b", "\\brandom\\b",
    "\\bnanoTime\\b", "\\bcurrentTimeMillis\\b", "\\bSystem\\.(?!arraycopy\\b)", "\\bMath\\.(?!max\\b|min\\b|abs\\b)",
    "\\bInteger\\.(?!bitCount\\b)", "\\bLong\\.(?!MIN_VALUE\\b)", "\\bArrays\\.(?!fill\\b|copyOf\\b|copyOfRange\\b)",
    "\\bimport (?!java\\.util\\.Arrays;)", "\\bstatic \\{", "while \\(true\\)", "for \\(;;\\)", "\\[\\]\\[\\]\\[\\]",
    "\\b(hashCode|toString|equals)\\("
  };

  public static void main(String[] args) throws Exception {
    String source = Files.readString(Path.of("src/main/java/SpeaksInTurn.java"));
    for (int i = 0; i < source.length(); i++) {
      if (source.charAt(i) > 127) {
        Due.holds("sign " + (int) source.charAt(i) + " at " + i, false);
      }
    }
    String code = source.replaceAll("(?s)/\\*.*?\\*/", "").replaceAll("//[^\n]*", "");
    for (String word : FORBIDDEN) {
      Matcher found = Pattern.compile(word).matcher(code);
      Due.holds("no " + word, !found.find());
    }
    methodsAreShort(source.split("\n"));
    Due.end();
  }

  private static void methodsAreShort(String[] lines) {
    int begun = -1;
    for (int i = 0; i < lines.length; i++) {
      if (lines[i].matches("( {4}| {8})(public |private |static |final |abstract )*[\\w\\[\\]]+ \\w+\\(.*\\{")) {
        begun = i;
      }
      if (begun >= 0 && lines[i].matches("( {4}| {8})\\}") && lines[i].indexOf('}') == indent(lines[begun])) {
        Due.holds("line " + (begun + 1) + " begins a short method", i - begun < 60);
        begun = -1;
      }
    }
  }

  private static int indent(String line) {
    return line.length() - line.stripLeading().length();
  }
}
