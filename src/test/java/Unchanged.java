import java.util.LinkedHashMap;
import java.util.List;
import java.util.Map;
import java.util.NoSuchElementException;

/** A call that throws an exception leaves the state unchanged, unless its description says otherwise. */
final class Unchanged {
  private static final int MOST_UNDONE = 8;

  private Unchanged() {
  }

  /** Looks at each row that is due to throw: what can be seen of the state ahead of it and behind it is the same. */
  static void check(String title, List<String> rows) {
    for (int i = 0; i < rows.size(); i++) {
      int arrow = rows.get(i).indexOf(" -> ");
      String call = Script.callOf(rows.get(i));
      String due = arrow < 0 ? "" : rows.get(i).substring(arrow + 4).strip();
      if (Script.isException(due) && call.endsWith(")") && !call.startsWith("times(")) {
        Map<String, String> ahead = seen(rows.subList(0, i));
        Map<String, String> behind = seen(rows.subList(0, i + 1));
        leaveOutWhatMayChange(call, due, ahead, behind);
        Script.same(title + ", row " + (i + 1) + ": unchanged by " + call, behind, ahead);
      }
    }
  }

  @SafeVarargs
  private static void leaveOutWhatMayChange(String call, String due, Map<String, String>... states) {
    boolean isRead = call.startsWith("text(") || call.equals("read()");
    for (Map<String, String> state : states) {
      if (due.equals("UnsupportedOperation")) {
        state.remove("refusal");
      }
      if (isRead) {
        state.remove("buffer");
        if (due.equals("IllegalArgument")) {
          state.remove("error position");
        }
      }
    }
  }

  /** Each part is asked of an object of its own, for to ask is to write lines, to undo and to read. */
  private static Map<String, String> seen(List<String> rows) {
    Map<String, String> seen = new LinkedHashMap<>();
    seen.put("line", line(Script.after(rows)));
    seen.put("refusal", refusal(Script.after(rows)));
    seen.put("error position", errorPosition(Script.after(rows)));
    seen.put("buffer", buffer(Script.after(rows)));
    for (int undone = 0; undone <= MOST_UNDONE; undone++) {
      seen.put(undone + " undone", undone(Script.after(rows), undone));
    }
    seen.put("restored", restored(Script.after(rows)));
    return seen;
  }

  private static String line(DreamPlots dreams) {
    StringBuilder line = new StringBuilder();
    try {
      while (line.length() < 100) {
        line.append(dreams.written(line.length()));
      }
      return "too long";
    } catch (NoSuchElementException e) {
      return line.toString();
    }
  }

  private static String refusal(DreamPlots dreams) {
    String refusal = "";
    try {
      refusal += dreams.refusal(false, false) + " " + dreams.refusal(false, true);
      return refusal + " " + dreams.refusal(true, false) + " " + dreams.refusal(true, true);
    } catch (NoSuchElementException e) {
      return refusal;
    }
  }

  private static String errorPosition(DreamPlots dreams) {
    try {
      return String.valueOf(dreams.errorPosition());
    } catch (NoSuchElementException e) {
      return "none";
    }
  }

  private static String buffer(DreamPlots dreams) {
    int typed = dreams.account(10);
    try {
      return typed + " characters, " + dreams.read() + " commands";
    } catch (IllegalArgumentException e) {
      return typed + " characters, malformed at " + errorPosition(dreams);
    } catch (UnsupportedOperationException e) {
      return typed + " characters, refused " + refusal(dreams);
    }
  }

  private static String undone(DreamPlots dreams, int times) {
    try {
      for (int i = 0; i < times; i++) {
        dreams.undo();
      }
    } catch (IllegalStateException e) {
      return "none";
    }
    return dreams.account(11) + " " + world(dreams);
  }

  private static String restored(DreamPlots dreams) {
    try {
      return dreams.restore() + " " + world(dreams);
    } catch (IllegalStateException e) {
      return "none";
    }
  }

  /** All that changes can change. */
  private static String world(DreamPlots dreams) {
    StringBuilder world = new StringBuilder();
    world.append("hour ").append(dreams.account(8)).append(" bent ").append(dreams.account(9));
    for (int peg = 0; peg < dreams.account(2); peg++) {
      world.append(" peg ").append(dreams.pegOf(peg, 0)).append(',').append(dreams.pegOf(peg, 1)).append(',')
          .append(dreams.pegOf(peg, 2));
    }
    for (int sleeper = 0; sleeper < dreams.account(0); sleeper++) {
      world.append(" sleeper ").append(dreams.sleeperOf(sleeper, 0)).append(' ');
      dreams.tell(sleeper);
      world.append(line(dreams));
    }
    return world.toString();
  }
}
