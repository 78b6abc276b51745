import java.io.IOException;
import java.lang.reflect.Constructor;
import java.lang.reflect.Field;
import java.lang.reflect.Method;
import java.lang.reflect.Modifier;
import java.nio.file.Files;
import java.nio.file.Path;
import java.util.Arrays;
import java.util.List;
import java.util.TreeSet;
import java.util.regex.Matcher;
import java.util.regex.Pattern;

/** The public face is the document's, and the file keeps to the rules of LANGUAGE.md that can be told by a look. */
public final class FaceTest {
  private static final Path ROOT = Path.of(System.getProperty("root", "."));

  private FaceTest() {
  }

  public static void main(String[] args) throws IOException {
    String source = Files.readString(ROOT.resolve("src/main/java/DreamPlots.java"));
    String document = Files.readString(ROOT.resolve("../shared/DOC.md"));
    faceIsTheDocuments(document);
    noOtherMember();
    noNameIsUsedAgain(source);
    sourceKeepsToTheLanguage(source);
    oneRunNeedsLittleRoom();
    Script.end("FaceTest");
  }

  private static void faceIsTheDocuments(String document) {
    String face = document.substring(document.indexOf("```java"), document.indexOf("## Terms"));
    TreeSet<String> due = new TreeSet<>();
    Matcher row = Pattern.compile("    public (.*);").matcher(face);
    while (row.find()) {
      due.add(row.group(1).replaceAll("(int|char|boolean) \\w+(?=[,)])", "$1").replaceAll("throws ", ""));
    }
    TreeSet<String> got = new TreeSet<>();
    for (Constructor<?> constructor : DreamPlots.class.getDeclaredConstructors()) {
      got.add("DreamPlots" + types(constructor.getParameterTypes()));
      Script.same("the constructor is public", Modifier.isPublic(constructor.getModifiers()), true);
    }
    for (Method method : DreamPlots.class.getDeclaredMethods()) {
      if (Modifier.isPublic(method.getModifiers())) {
        String thrown = String.join(", ", names(method.getExceptionTypes()));
        got.add(method.getReturnType().getSimpleName() + " " + method.getName() + types(method.getParameterTypes())
            + (thrown.isEmpty() ? "" : " " + thrown));
      }
    }
    due.remove("final class DreamPlots {");
    TreeSet<String> dueNames = new TreeSet<>();
    for (String one : due) {
      dueNames.add(one.replaceAll("\\s+", " "));
    }
    Script.same("the face", got, dueNames);
    Script.same("the class is final", Modifier.isFinal(DreamPlots.class.getModifiers()), true);
    Script.same("37 promises", due.size(), 37);
  }

  private static List<String> names(Class<?>[] types) {
    return Arrays.stream(types).map(Class::getSimpleName).toList();
  }

  private static String types(Class<?>[] types) {
    return "(" + String.join(", ", names(types)) + ")";
  }

  private static void noOtherMember() {
    for (Method method : DreamPlots.class.getDeclaredMethods()) {
      int modifiers = method.getModifiers();
      Script.same(method.getName() + " is public or private",
          Modifier.isPublic(modifiers) || Modifier.isPrivate(modifiers), true);
    }
    for (Field field : DreamPlots.class.getDeclaredFields()) {
      Script.same(field.getName() + " is private", Modifier.isPrivate(field.getModifiers()), true);
      Script.same(field.getName() + " is final if static",
          !Modifier.isStatic(field.getModifiers()) || Modifier.isFinal(field.getModifiers()), true);
    }
    Script.same("at most twelve classes", DreamPlots.class.getDeclaredClasses().length < 12, true);
    for (Class<?> inner : DreamPlots.class.getDeclaredClasses()) {
      Script.same(inner.getSimpleName() + " is static", Modifier.isStatic(inner.getModifiers()), true);
    }
  }

  private static void noNameIsUsedAgain(String source) {
    for (Method method : DreamPlots.class.getDeclaredMethods()) {
      if (Modifier.isPublic(method.getModifiers())) {
        Matcher again = Pattern.compile("\\b(int|boolean|char|double|float|void) " + method.getName() + "\\(")
            .matcher(source);
        int count = 0;
        while (again.find()) {
          count++;
        }
        Script.same("methods with the name " + method.getName(), count, 1);
      }
    }
  }

  private static void sourceKeepsToTheLanguage(String source) {
    String[] out = {"->", "::", "try", "catch", "finally", "synchronized", "assert", "instanceof", "System.out",
        "System.nano", "Random", "Exact(", "Thread", "static {", "+ \"", "\" +", "while (true)", "for (;;)"};
    String bare = source.replaceAll("/\\*\\*(?s:.*?)\\*/", "").replaceAll("//.*", "");
    for (String word : out) {
      Script.same("no " + word, bare.contains(word), false);
    }
    Matcher imports = Pattern.compile("(?m)^import (.*);").matcher(source);
    while (imports.find()) {
      Script.same("import", imports.group(1), "java.util.NoSuchElementException");
    }
    Script.same("only plain signs", source.chars().allMatch(c -> c == '\n' || c >= 32 && c < 127), true);
    Script.same("no package", Pattern.compile("(?m)^package").matcher(source).find(), false);
  }

  /** Calls make no objects but exceptions: a run of 512 dear calls stays far below the room that there is. */
  private static void oneRunNeedsLittleRoom() {
    com.sun.management.ThreadMXBean beans =
        (com.sun.management.ThreadMXBean) java.lang.management.ManagementFactory.getThreadMXBean();
    long thread = Thread.currentThread().getId();
    for (int warm = 0; warm < 3; warm++) {
      dearRun();
    }
    long before = beans.getThreadAllocatedBytes(thread);
    dearRun();
    long bytes = beans.getThreadAllocatedBytes(thread) - before;
    Script.same("a run makes less than 100,000 bytes, it made " + bytes, bytes < 100_000, true);
  }

  private static void dearRun() {
    DreamPlots dreams = new DreamPlots();
    for (int i = 0; i < 5; i++) {
      dreams.sleeper(9);
      dreams.plot(i, i, 0);
      dreams.chain(i, 'e', 5);
      dreams.chain(i, 's', 8);
      dreams.chain(i, 'w', 5);
      dreams.chain(i, 'n', 8);
    }
    String text = "new 5;drop 0;deep 1 2";
    for (int i = 0; i < 60; i++) {
      dreams.isWell();
      dreams.tell(0);
      dreams.deep(0, i % 2 + 1);
      dreams.type(text.charAt(i % text.length()));
    }
  }
}
