import java.io.IOException;
import java.nio.file.Files;
import java.nio.file.Path;
import java.util.ArrayList;
import java.util.HashSet;
import java.util.List;
import java.util.Set;
import java.util.TreeSet;
import java.util.stream.Stream;

/**
 * Each sentence of the document that names an edge has a test of its own, in the files of src/test/edges: rows with
 * "==" name one sentence or more, a row with "--" begins a new run of calls, and the rows of a run are in the words of
 * Script. The sentences that name no edge are told in none.txt; none but these may be without a test.
 */
public final class EdgesTest {
  private static final Path ROOT = Path.of(System.getProperty("root", "."));

  private final Set<String> document;
  private final Set<String> tested = new HashSet<>();
  private final List<String> sentences = new ArrayList<>();
  private boolean hasRun = false;
  private String title = "";
  private final List<String> rows = new ArrayList<>();

  private EdgesTest(Set<String> document) {
    this.document = document;
  }

  public static void main(String[] args) throws IOException {
    EdgesTest test = new EdgesTest(Sentences.of(ROOT.resolve("../shared/DOC.md")));
    Path edges = ROOT.resolve("src/test/edges");
    for (Path file : filesIn(edges)) {
      test.runAll(Files.readAllLines(file));
    }
    test.noSentenceIsLeftOut(Files.readAllLines(edges.resolve("none.txt")));
    Script.end("EdgesTest");
  }

  private static List<Path> filesIn(Path folder) throws IOException {
    try (Stream<Path> files = Files.list(folder)) {
      return files.filter(file -> !file.endsWith("none.txt")).sorted().toList();
    }
  }

  private void runAll(List<String> lines) {
    for (String line : lines) {
      if (line.startsWith("== ")) {
        endRun();
        addSentence(line.substring(3));
      } else if (line.startsWith("-- ")) {
        endRun();
        title = line.substring(3);
      } else if (!line.isBlank()) {
        rows.add(line);
      }
    }
    endRun();
  }

  /** Sentences that follow each other without a run between them have their runs in common. */
  private void addSentence(String sentence) {
    if (hasRun) {
      sentences.clear();
      hasRun = false;
    }
    sentences.add(sentence);
    title = "";
    Script.same(sentence + ": stands in the document", document.contains(sentence), true);
  }

  private void endRun() {
    if (!rows.isEmpty()) {
      String name = sentences + " " + title;
      Script.run(name, String.join("\n", rows));
      Unchanged.check(name, rows);
      tested.addAll(sentences);
      hasRun = true;
      rows.clear();
    }
  }

  private void noSentenceIsLeftOut(List<String> withoutEdges) {
    Set<String> left = new TreeSet<>(document);
    left.removeAll(tested);
    for (String line : withoutEdges) {
      if (line.startsWith("* | ")) {
        boolean isThere = document.stream().anyMatch(one -> isLike(line, one));
        Script.same(line + ": stands in the document", isThere, true);
        left.removeIf(one -> isLike(line, one));
      } else if (!line.isBlank()) {
        Script.same(line + ": stands in the document", document.contains(line), true);
        Script.same(line + ": has no test", tested.contains(line), false);
        left.remove(line);
      }
    }
    Script.same("sentences without a test that are not told in none.txt", left, Set.of());
  }

  /** A star stands for any section. */
  private static boolean isLike(String line, String one) {
    return one.substring(one.indexOf('|')).equals(line.substring(2));
  }
}
