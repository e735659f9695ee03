import java.io.IOException;
import java.lang.reflect.Method;
import java.lang.reflect.Modifier;
import java.nio.file.Files;
import java.nio.file.Path;
import java.util.regex.Matcher;
import java.util.regex.Pattern;

/** What README.md says: its list can be taught, and its calls have the answers that stand behind them. */
public final class ReadmeTest {
  public static void main(String[] args) throws IOException {
    String page = Files.readString(Path.of("README.md"));
    BarkMakers makers = Check.taught(block(page, "text"));
    Matcher calls = Pattern.compile("makers\\.(\\w+)\\(([0-9, ]*)\\); +// (\\d+):").matcher(page);
    int found = 0;
    while (calls.find()) {
      Check.same(calls.group(), answer(makers, calls.group(1), calls.group(2)), Integer.parseInt(calls.group(3)));
      found++;
    }
    Check.same("calls with their answers", found, 6);
    for (Method method : BarkMakers.class.getDeclaredMethods()) {
      boolean isPublic = Modifier.isPublic(method.getModifiers());
      Check.same("it names " + method.getName(), !isPublic || page.contains("`" + method.getName() + "`") ? 1 : 0, 1);
    }
    Check.finish();
  }

  private static String block(String page, String sort) {
    int from = page.indexOf("```" + sort + "\n") + sort.length() + 4;
    return page.substring(from, page.indexOf("```", from));
  }

  private static int answer(BarkMakers makers, String call, String arguments) {
    String[] numbers = arguments.split(", ");
    int first = Integer.parseInt(numbers[0]);
    switch (call) {
      case "until": return makers.until(first);
      case "foresee": return makers.foresee(first, Integer.parseInt(numbers[1]));
      case "pass": return makers.pass(first);
      case "count": return makers.count(first);
      case "bark": return makers.bark(first, Integer.parseInt(numbers[1]));
      case "advise": return makers.advise(first);
      default: throw new IllegalArgumentException(call);
    }
  }
}
