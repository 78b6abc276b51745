import java.io.IOException;
import java.lang.reflect.Method;
import java.lang.reflect.Modifier;
import java.nio.file.Files;
import java.nio.file.Path;
import java.util.regex.Matcher;
import java.util.regex.Pattern;

/** What README.md shows is so: its calls answer what stands behind them, and it tells every call of the face. */
public final class ReadmeTest {
  private static final Path ROOT = Path.of(System.getProperty("root", "."));
  private static final Pattern CALL = Pattern.compile("dreams\\.(\\w+\\(.*\\)); +// ([^\\s:]+)(:.*)?");
  private static final Pattern TYPED =
      Pattern.compile("for \\(char c : \"(.*)\"\\.toCharArray\\(\\)\\) dreams\\.type\\(c\\);");

  private ReadmeTest() {
  }

  public static void main(String[] args) throws IOException {
    String readme = Files.readString(ROOT.resolve("README.md"));
    Script.run("README", exampleIn(readme));
    everyCallIsTold(readme);
    Script.end("ReadmeTest");
  }

  /** The rows of the example in the words of Script. */
  private static String exampleIn(String readme) {
    int from = readme.indexOf("```java") + "```java".length();
    StringBuilder rows = new StringBuilder();
    for (String row : readme.substring(from, readme.indexOf("```", from)).split("\n")) {
      if (!row.isBlank() && !row.equals("DreamPlots dreams = new DreamPlots();")) {
        rows.append(translated(row)).append('\n');
      }
    }
    return rows.toString();
  }

  private static String translated(String row) {
    Matcher typed = TYPED.matcher(row);
    if (typed.matches()) {
      return "types(" + typed.group(1) + ") -> " + typed.group(1).length();
    }
    Matcher call = CALL.matcher(row);
    Script.same("a row of the example: " + row, call.matches(), true);
    return call.matches()
        ? call.group(1).replaceAll("[ ']", "") + " -> " + call.group(2).replaceAll("Exception$", "")
        : "";
  }

  private static void everyCallIsTold(String readme) {
    for (Method method : DreamPlots.class.getDeclaredMethods()) {
      if (Modifier.isPublic(method.getModifiers())) {
        boolean isTold = readme.contains("`" + method.getName() + "(");
        Script.same("README tells " + method.getName(), isTold, true);
      }
    }
  }
}
