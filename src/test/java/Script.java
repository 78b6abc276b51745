import java.lang.reflect.InvocationTargetException;
import java.lang.reflect.Method;

/**
 * Runs of calls as text, each run on a new object: a line is a call and the answer that is due, as in
 * "chain(0,e,4) -> 4" or "sleeper(0) -> IllegalArgument". Some words stand for several calls: "text(new 5;drop 0)"
 * types and reads, "line" is the line that was written, or "empty", "refused" and "cause" are a reason and its detail.
 */
final class Script {
  private static int right = 0;
  private static int wrong = 0;

  private Script() {
  }

  static void run(String title, String lines) {
    run(title, lines, new DreamPlots());
  }

  static void run(String title, String lines, DreamPlots dreams) {
    int number = 0;
    for (String row : lines.split("\n")) {
      number++;
      if (row.isBlank()) {
        continue;
      }
      int arrow = row.indexOf(" -> ");
      String call = (arrow < 0 ? row : row.substring(0, arrow)).strip();
      String got = answer(dreams, call);
      if (arrow < 0) {
        count(!isException(got), title, number, call, got, "an answer");
      } else {
        String want = row.substring(arrow + 4).strip();
        count(got.equals(want), title, number, call, got, want);
      }
    }
  }

  static void same(String title, Object got, Object want) {
    count(String.valueOf(got).equals(String.valueOf(want)), title, 0, "", String.valueOf(got), String.valueOf(want));
  }

  private static void count(boolean isRight, String title, int row, String call, String got, String want) {
    if (isRight) {
      right++;
    } else {
      wrong++;
      System.out.println(title + ", row " + row + ": " + call + " answered " + got + ", due is " + want);
    }
  }

  static void end(String name) {
    System.out.println(name + ": " + right + " answers as due, " + wrong + " not");
    if (wrong != 0) {
      System.exit(1);
    }
  }

  private static boolean isException(String answer) {
    return !answer.isEmpty() && Character.isUpperCase(answer.charAt(0)) && answer.length() > 1;
  }

  private static String answer(DreamPlots dreams, String call) {
    if (call.equals("line")) {
      return line(dreams);
    }
    if (call.equals("refused")) {
      return invoke(dreams, "refusal(false,false)") + " " + invoke(dreams, "refusal(false,true)");
    }
    if (call.equals("cause")) {
      return invoke(dreams, "refusal(true,false)") + " " + invoke(dreams, "refusal(true,true)");
    }
    if (call.startsWith("text(")) {
      for (char character : call.substring(5, call.length() - 1).toCharArray()) {
        dreams.type(character);
      }
      return invoke(dreams, "read()");
    }
    return invoke(dreams, call);
  }

  private static String line(DreamPlots dreams) {
    StringBuilder line = new StringBuilder();
    for (int i = 0; !invoke(dreams, "written(" + i + ")").equals("NoSuchElement"); i++) {
      line.append(dreams.written(i));
    }
    return line.isEmpty() ? "empty" : line.toString();
  }

  private static String invoke(DreamPlots dreams, String call) {
    String name = call.substring(0, call.indexOf('('));
    String inner = call.substring(call.indexOf('(') + 1, call.length() - 1);
    String[] words = inner.isEmpty() ? new String[0] : inner.split(",");
    for (Method method : DreamPlots.class.getDeclaredMethods()) {
      if (method.getName().equals(name)) {
        return outcome(dreams, method, arguments(method, words));
      }
    }
    return "no such method";
  }

  private static Object[] arguments(Method method, String[] words) {
    Class<?>[] types = method.getParameterTypes();
    Object[] arguments = new Object[words.length];
    for (int i = 0; i < words.length; i++) {
      if (types[i] == char.class) {
        arguments[i] = words[i].charAt(0);
      } else if (types[i] == boolean.class) {
        arguments[i] = Boolean.valueOf(words[i]);
      } else {
        arguments[i] = Integer.valueOf(words[i]);
      }
    }
    return arguments;
  }

  static String outcome(Object object, Method method, Object[] arguments) {
    try {
      return String.valueOf(method.invoke(object, arguments));
    } catch (InvocationTargetException thrown) {
      return thrown.getCause().getClass().getSimpleName().replace("Exception", "");
    } catch (IllegalAccessException e) {
      return "no access";
    }
  }
}
