import java.lang.reflect.InvocationTargetException;
import java.lang.reflect.Method;
import java.lang.reflect.Modifier;
import java.util.HashMap;
import java.util.Map;

/**
 * Runs of calls as text, each run on a new object: a line is a call and the answer that is due, as in
 * "chain(0,e,4) -> 4" or "sleeper(0) -> IllegalArgument". A character that can't be written is told by its number, as
 * in "type(#0)". Some words stand for several calls, and answer what the last one answers: "text(new 5;drop 0)" types
 * and reads, "types(new 5)" only types, "lay(0,e2s2)" lays chains, "box(0,3,2,9,4)" closes the plot of sleeper 0
 * around the cells from 3, 2 on, 9 wide and 4 high, "times(9,undo())" and "times(9,deep(0,1) then deep(0,2))" do the
 * same again. "line" is the line that was written, or "empty", "refused" and "cause" are a reason and its detail.
 */
final class Script {
  /** What an object answers after so many calls is free. */
  private static final int MOST_CALLS = 512;
  private static final Map<String, Method> METHODS = new HashMap<>();

  private static int right = 0;
  private static int wrong = 0;

  static {
    for (Method method : DreamPlots.class.getDeclaredMethods()) {
      if (Modifier.isPublic(method.getModifiers())) {
        METHODS.put(method.getName(), method);
      }
    }
  }

  private final DreamPlots dreams;
  private int calls = 0;

  private Script(DreamPlots dreams) {
    this.dreams = dreams;
  }

  static void run(String title, String lines) {
    run(title, lines, new DreamPlots());
  }

  static void run(String title, String lines, DreamPlots dreams) {
    Script script = new Script(dreams);
    int number = 0;
    for (String row : lines.split("\n")) {
      number++;
      if (row.isBlank()) {
        continue;
      }
      String call = callOf(row);
      String got = script.answer(call);
      int arrow = row.indexOf(" -> ");
      if (arrow < 0) {
        count(!isException(got), title, number, call, got, "an answer");
      } else {
        String want = row.substring(arrow + 4).strip();
        count(got.equals(want), title, number, call, got, want);
      }
    }
    if (script.calls > MOST_CALLS) {
      count(false, title, number, "the run", script.calls + " calls", "at most " + MOST_CALLS);
    }
  }

  static String callOf(String row) {
    int arrow = row.indexOf(" -> ");
    return (arrow < 0 ? row : row.substring(0, arrow)).strip();
  }

  /** The object on which the rows were called, whatever they answered. */
  static DreamPlots after(Iterable<String> rows) {
    Script script = new Script(new DreamPlots());
    for (String row : rows) {
      script.answer(callOf(row));
    }
    return script.dreams;
  }

  static void same(String title, Object got, Object want) {
    count(String.valueOf(got).equals(String.valueOf(want)), title, 0, "", String.valueOf(got), String.valueOf(want));
  }

  private static void count(boolean isRight, String title, int row, String call, String got, String want) {
    if (isRight) {
      right++;
    } else {
      wrong++;
      System.out.println(title + ", row " + row + ": " + call + " answered " + got + ", due is " + want);
    }
  }

  static void end(String name) {
    System.out.println(name + ": " + right + " answers as due, " + wrong + " not");
    if (wrong != 0) {
      System.exit(1);
    }
  }

  static boolean isException(String answer) {
    return !answer.isEmpty() && Character.isUpperCase(answer.charAt(0)) && answer.length() > 1;
  }

  private String answer(String call) {
    switch (call) {
      case "line":
        return line();
      case "refused":
        return invoke("refusal(false,false)") + " " + invoke("refusal(false,true)");
      case "cause":
        return invoke("refusal(true,false)") + " " + invoke("refusal(true,true)");
      default:
        return several(nameOf(call), innerOf(call), call);
    }
  }

  private static String nameOf(String call) {
    return call.substring(0, call.indexOf('('));
  }

  private static String innerOf(String call) {
    return call.substring(call.indexOf('(') + 1, call.length() - 1);
  }

  private String several(String name, String inner, String call) {
    switch (name) {
      case "text":
        types(inner);
        return invoke("read()");
      case "types":
        return types(inner);
      case "lay":
        return lay(inner.substring(0, inner.indexOf(',')), inner.substring(inner.indexOf(',') + 1));
      case "box":
        return box(inner.split(","));
      case "times":
        return times(inner);
      default:
        return invoke(call);
    }
  }

  private String types(String text) {
    String answer = "";
    for (char character : text.toCharArray()) {
      answer = outcome(METHODS.get("type"), character);
    }
    return answer;
  }

  /** Ends with the first chain that is not laid. */
  private String lay(String sleeper, String chains) {
    String answer = "";
    for (int i = 0; i + 1 < chains.length() && !isException(answer); i += 2) {
      answer = invoke("chain(" + sleeper + "," + chains.charAt(i) + "," + chains.charAt(i + 1) + ")");
    }
    return answer;
  }

  private String box(String[] words) {
    int width = Integer.parseInt(words[3]);
    int height = Integer.parseInt(words[4]);
    String begun = invoke("plot(" + words[0] + "," + words[1] + "," + words[2] + ")");
    String chains = straight('e', width) + straight('s', height) + straight('w', width) + straight('n', height);
    return isException(begun) ? begun : lay(words[0], chains);
  }

  private static String straight(char direction, int length) {
    return length <= 9 ? direction + "" + length : direction + "9" + direction + (length - 9);
  }

  private String times(String inner) {
    int times = Integer.parseInt(inner.substring(0, inner.indexOf(',')));
    String[] again = inner.substring(inner.indexOf(',') + 1).split(" then ");
    String answer = "";
    for (int i = 0; i < times; i++) {
      for (String call : again) {
        answer = answer(call);
      }
    }
    return answer;
  }

  private String line() {
    StringBuilder line = new StringBuilder();
    String character = invoke("written(0)");
    while (!isException(character)) {
      line.append(character);
      character = invoke("written(" + line.length() + ")");
    }
    return line.isEmpty() ? "empty" : line.toString();
  }

  private String invoke(String call) {
    Method method = METHODS.get(nameOf(call));
    String inner = innerOf(call);
    String[] words = inner.isEmpty() ? new String[0] : inner.split(",");
    return method == null ? "NoSuchMethod" : outcome(method, arguments(method, words));
  }

  private static Object[] arguments(Method method, String[] words) {
    Class<?>[] types = method.getParameterTypes();
    Object[] arguments = new Object[words.length];
    for (int i = 0; i < words.length; i++) {
      if (types[i] == char.class) {
        arguments[i] = character(words[i]);
      } else if (types[i] == boolean.class) {
        arguments[i] = Boolean.valueOf(words[i]);
      } else {
        arguments[i] = Integer.valueOf(words[i]);
      }
    }
    return arguments;
  }

  private static char character(String word) {
    return word.length() > 1 && word.charAt(0) == '#' ? (char) Integer.parseInt(word.substring(1)) : word.charAt(0);
  }

  private String outcome(Method method, Object... arguments) {
    calls++;
    return outcome(dreams, method, arguments);
  }

  static String outcome(Object object, Method method, Object[] arguments) {
    try {
      return String.valueOf(method.invoke(object, arguments));
    } catch (InvocationTargetException thrown) {
      return thrown.getCause().getClass().getSimpleName().replace("Exception", "");
    } catch (IllegalAccessException e) {
      return "no access";
    }
  }
}
