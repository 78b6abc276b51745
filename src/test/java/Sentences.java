import java.io.IOException;
import java.nio.file.Files;
import java.nio.file.Path;
import java.util.LinkedHashSet;
import java.util.Set;

/**
 * The sentences of the document, each with the section in which it stands ahead of it, as in
 * "9 | Lets hours go by.": a promise is told by its number. The parts between semicolons are sentences of their own.
 */
final class Sentences {
  private Sentences() {
  }

  static Set<String> of(Path document) throws IOException {
    Set<String> sentences = new LinkedHashSet<>();
    String text = Files.readString(document);
    for (String section : text.split("(?m)^## ")) {
      int end = section.indexOf('\n');
      String title = section.substring(0, Math.max(0, end)).replaceFirst("^Promise (\\d+):.*", "$1");
      if (title.equals("What it is") || title.equals("Terms") || title.matches("\\d+")) {
        addAll(sentences, title, section.substring(end));
      }
    }
    return sentences;
  }

  private static void addAll(Set<String> sentences, String title, String section) {
    for (String paragraph : section.split("\n\\s*\n|\n(?=- )")) {
      String plain = paragraph.strip().replaceAll("\\s+", " ");
      if (plain.startsWith("```")) {
        sentences.add(title + " | " + plain);
        continue;
      }
      plain = plain.replaceFirst("^`[^`]*\\)[^`]*`: ", "").replaceFirst("^- ", "");
      for (String sentence : plain.split("(?<=[.;]) ")) {
        if (!sentence.isEmpty()) {
          sentences.add(title + " | " + sentence);
        }
      }
    }
  }
}
