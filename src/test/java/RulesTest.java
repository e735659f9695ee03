import java.io.IOException;
import java.nio.file.Files;
import java.nio.file.Path;
import java.util.List;
import java.util.Set;
import java.util.TreeSet;
import java.util.regex.Matcher;
import java.util.regex.Pattern;

/** Those rules of ../shared/LANGUAGE.md that can be seen in the program's text. */
public final class RulesTest {
  private static final Set<String> LIBRARY = Set.of("String", "StringBuilder", "ArrayList", "List", "Integer", "Long", "Math", "Iterator", "Iterable", "Comparable", "System",
      "Arrays", "IllegalStateException", "IllegalArgumentException", "IndexOutOfBoundsException", "ArithmeticException", "UnsupportedOperationException", "NoSuchElementException",
      "RuntimeException");

  public static void main(String[] args) throws IOException {
    String text = Files.readString(Path.of("src/main/java/BarkMakers.java"));
    String code = withoutTexts(text);
    signsOfTexts(text);
    onlyOwnClassesAndTheLibrary(code);
    noForbiddenWords(code);
    noThrowInConstructors(code);
    shortMethods(code);
    Check.finish();
  }

  /** Comments go, and what texts and signs hold; their lines stay. */
  private static String withoutTexts(String text) {
    Matcher matcher = Pattern.compile("(?s)/\\*.*?\\*/|//[^\n]*|\"[^\"\n]*\"|'[^'\n]*'").matcher(text);
    return matcher.replaceAll(found -> Matcher.quoteReplacement(found.group().startsWith("/") ? found.group().replaceAll("[^\n]", "")
        : found.group().startsWith("'") ? "''" : "\"\""));
  }

  private static void none(String what, String text, String pattern) {
    Matcher matcher = Pattern.compile(pattern).matcher(text);
    while (matcher.find()) {
      Check.same(what + " in line " + text.substring(0, matcher.start()).split("\n", -1).length + ": " + matcher.group(), 1, 0);
    }
  }

  /** Rule 4: "constants, whose signs are 1 to 127" */
  private static void signsOfTexts(String text) {
    none("a sign above 127", text, "[^\\x01-\\x7f]");
  }

  /** "written ... without a package line", "no library but what it lists" */
  private static void onlyOwnClassesAndTheLibrary(String code) {
    none("a package, or an import of another one", code, "\\bpackage\\b.*|\\bimport (?!java\\.util\\.).*");
    Set<String> own = new TreeSet<>();
    Matcher told = Pattern.compile("\\b(?:class|record|enum|interface) ([A-Z]\\w*)").matcher(code);
    while (told.find()) {
      own.add(told.group(1));
    }
    Matcher used = Pattern.compile("\\b[A-Z]\\w*[a-z]\\w*").matcher(code);
    while (used.find()) {
      Check.same("a class that is not listed, " + used.group(), own.contains(used.group()) || LIBRARY.contains(used.group()) ? 1 : 0, 1);
    }
    none("a function that may throw", code, "\\.\\w*Exact\\b");
    none("of System only arraycopy", code, "\\bSystem\\.(?!arraycopy\\b).*");
  }

  /** Rules 2, 5, 6 and 10: no lambda, no method reference, none of these words, no text joined by +; and no catch of what the machine throws. */
  private static void noForbiddenWords(String code) {
    none("a lambda or method reference", code, "->|::");
    none("a forbidden word", code, "\\b(assert|synchronized|finally|hashCode|native)\\b");
    none("a catch of what the machine throws", code,
        "\\bcatch\\b.*\\b(ArrayIndexOutOfBoundsException|NullPointerException|ClassCastException|NegativeArraySizeException|ArrayStoreException|Exception|Throwable)\\b");
    none("a static block", code, "\\bstatic\\s*\\{");
    none("a text joined by +", code, "\"\"\\s*\\+|\\+\\s*\"\"");
  }

  /** Rule 6: "no throw in a constructor" */
  private static void noThrowInConstructors(String code) {
    Matcher constructors = Pattern.compile("(?m)^( *)(?:public |private )?[A-Z]\\w*\\([^)]*\\) \\{\n(?s:.*?)\n\\1\\}").matcher(code);
    int found = 0;
    while (constructors.find()) {
      none("a throw in a constructor", constructors.group(), "\\bthrow\\b.*");
      found++;
    }
    Check.same("constructors are found", found >= 10 ? 1 : 0, 1);
  }

  /** Rule 11: "Methods stay short (some sixty lines)" */
  private static void shortMethods(String code) {
    Matcher methods = Pattern.compile("(?m)^( {4}| {8})(?:\\w+ )+\\w+\\([^)]*\\)[^;{]*\\{\n((?s:.*?)\n)\\1\\}").matcher(code);
    int found = 0;
    while (methods.find()) {
      int lines = methods.group(2).split("\n").length;
      Check.same("lines of " + methods.group().trim().split("\n")[0] + " are at most 60", lines <= 60 ? 1 : 0, 1);
      found++;
    }
    Check.same("methods are found", found >= 80 ? 1 : 0, 1);
  }
}
