/**
 * Promises 26 and 27: each text that is a part of a command and one character more, whichever, is answered as the Model
 * answers it: it is well formed, or the error position is the same.
 */
public final class TextsTest {
  private static final String[] TEXTS = {"new 5", "peg 12 3 4", "peg 1 3 4", "plot 0 12 3", "plot 0 1 3", "lay 0n5",
      "lay 0e5", "lay 0s5", "lay 0w5", "bend 0 12+3", "bend 0 1-3", "drop 0", "deep 0 1", "dusk 12", "dusk 1",
      "new 5;plot 0 1 3;lay 0e3"};
  private static final int[] FAR = {128, 160, 255, 256, 256 + '0', 1632, 55296, 65296, 65535};

  private TextsTest() {
  }

  public static void main(String[] args) {
    for (String text : TEXTS) {
      for (int length = 0; length <= text.length(); length++) {
        String part = text.substring(0, length);
        look(part);
        for (char character = 0; character < 128; character++) {
          look(part + character);
        }
        for (int character : FAR) {
          look(part + (char) character);
        }
      }
    }
    Script.end("TextsTest");
  }

  private static void look(String text) {
    DreamPlots dreams = new DreamPlots();
    Model model = new Model();
    for (char character : text.toCharArray()) {
      dreams.type(character);
      model.type(character);
    }
    Script.same("the text " + text, answer(dreams), answer(model));
  }

  private static String answer(DreamPlots dreams) {
    try {
      return dreams.read() + " commands";
    } catch (IllegalArgumentException e) {
      return "malformed at " + dreams.errorPosition();
    } catch (UnsupportedOperationException e) {
      return "refused";
    }
  }

  private static String answer(Model model) {
    try {
      return model.read() + " commands";
    } catch (IllegalArgumentException e) {
      return "malformed at " + model.errorPosition();
    } catch (UnsupportedOperationException e) {
      return "refused";
    }
  }
}
