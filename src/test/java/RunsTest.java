import java.lang.reflect.Method;
import java.util.ArrayList;
import java.util.HashMap;
import java.util.List;
import java.util.Map;
import java.util.Random;
import java.util.TreeMap;

/** All promises: long runs of calls, the same ones each time, that DreamPlots and Model must answer alike. */
public final class RunsTest {
  private static final int RUNS = 1000;
  private static final int CALLS = 512;
  private static final String[] CHANGES = {"sleeper", "peg", "plot", "chain", "chain", "chain", "chain", "bend",
      "bend", "drop", "deep", "dusk", "dusk", "undo", "save", "restore"};
  private static final String[] QUESTIONS = {"sleeperOf", "sleeperOf", "chainOf", "pegOf", "owner", "isInside", "area",
      "areaAgain", "border", "borderAgain", "fence", "closes", "would", "ranked", "nextLit", "isWell", "errorPosition",
      "refusal", "show", "tell", "written", "written", "account", "account", "meanDepth", "ownedShare"};

  private final Random random;
  private final Map<String, Method> real = methods(DreamPlots.class);
  private final Map<String, Method> due = methods(Model.class);
  private final DreamPlots dreams = new DreamPlots();
  private final Model model = new Model();
  private final List<String> calls = new ArrayList<>();
  private static final TreeMap<String, Integer> OUTCOMES = new TreeMap<>();

  private RunsTest(long seed) {
    random = new Random(seed);
  }

  public static void main(String[] args) {
    for (int run = 0; run < RUNS; run++) {
      String wrong = new RunsTest(run).run();
      Script.same("run " + run, wrong, "");
      if (!wrong.isEmpty()) {
        break;
      }
    }
    if (args.length > 0) {
      System.out.println(OUTCOMES);
    }
    Script.end("RunsTest");
  }

  private static Map<String, Method> methods(Class<?> type) {
    Map<String, Method> methods = new HashMap<>();
    for (Method method : type.getMethods()) {
      if (method.getDeclaringClass() == type) {
        methods.put(method.getName(), method);
      }
    }
    return methods;
  }

  /** Answers what went wrong, or nothing. */
  private String run() {
    String wrong = "";
    for (int i = random.nextInt(6); i > 0; i--) {
      wrong += call("sleeper", 1 + random.nextInt(9));
    }
    while (wrong.isEmpty() && calls.size() < CALLS) {
      int kind = random.nextInt(60);
      if (kind < 30) {
        wrong = question();
      } else if (kind < 52) {
        wrong = change();
      } else if (kind < 59) {
        wrong = rectangle();
      } else {
        wrong = text();
      }
    }
    return wrong;
  }

  private String call(String name, Object... arguments) {
    if (calls.size() >= CALLS) {
      return "";
    }
    String got = Script.outcome(dreams, real.get(name), arguments);
    String want = Script.outcome(model, due.get(name), arguments);
    String call = name + List.of(arguments);
    calls.add(call + " -> " + got);
    String kind = Character.isUpperCase(want.charAt(0)) && want.length() > 1 ? want : "answers";
    OUTCOMES.merge(name + " " + kind, 1, Integer::sum);
    if (got.equals("UnsupportedOperation")) {
      OUTCOMES.merge("reason " + model.refusal(false, false), 1, Integer::sum);
    }
    return got.equals(want) ? "" : String.join("\n", calls) + ", due is " + want;
  }

  private int below(int most) {
    return random.nextInt(most);
  }

  /** Mostly a number of the range, now and then one just outside of it, or far away. */
  private int around(int least, int most) {
    int kind = below(40);
    if (kind == 0) {
      return least - 1;
    }
    if (kind == 1) {
      return most + 1;
    }
    if (kind == 2) {
      return random.nextInt();
    }
    return least + below(most - least + 1);
  }

  private int sleeper() {
    return around(0, Math.max(0, model.account(0) - 1));
  }

  private char direction() {
    return below(40) == 0 ? (char) below(300) : "nesw".charAt(below(4));
  }

  private int corner(int most) {
    return around(0, most);
  }

  private String change() {
    String name = CHANGES[below(CHANGES.length)];
    return switch (name) {
      case "sleeper" -> call(name, around(1, 9));
      case "peg" -> call(name, corner(12), corner(8), around(2, 5));
      case "plot" -> call(name, sleeper(), corner(12), corner(8));
      case "chain" -> call(name, sleeper(), direction(), around(1, below(3) == 0 ? 9 : 2));
      case "bend" -> call(name, sleeper(), around(0, below(2) == 0 ? 15 : 5), below(3) == 0 ? around(-9, 9) : below(5) - 2);
      case "drop" -> call(name, sleeper());
      case "deep" -> call(name, sleeper(), around(0, 9));
      case "dusk" -> call(name, below(3) == 0 ? around(1, 20) : 1);
      default -> below(4) == 0 || name.equals("undo") ? call(name) : "";
    };
  }

  private String question() {
    String name = QUESTIONS[below(QUESTIONS.length)];
    return switch (name) {
      case "sleeperOf" -> call(name, sleeper(), around(0, 6));
      case "chainOf" -> call(name, sleeper(), around(0, 7), around(0, 3));
      case "pegOf" -> call(name, around(0, 3), around(0, 3));
      case "owner" -> call(name, around(0, 11), around(0, 7));
      case "isInside" -> call(name, sleeper(), around(0, 11), around(0, 7));
      case "border", "borderAgain" -> call(name, sleeper(), sleeper());
      case "area", "areaAgain", "fence", "closes", "tell" -> call(name, sleeper());
      case "would" -> call(name, sleeper(), below(3) == 0 ? around(0, 20) : below(4));
      case "ranked" -> call(name, around(0, 4));
      case "refusal" -> call(name, random.nextBoolean(), random.nextBoolean());
      case "show" -> call(name, around(0, 7));
      case "written" -> call(name, around(0, 20));
      case "account" -> call(name, around(0, 11));
      default -> call(name);
    };
  }

  /** Closed plots are rare where chains are laid at random. */
  private String rectangle() {
    int sleeper = sleeper();
    int width = 1 + below(8);
    int height = 1 + below(6);
    String across = random.nextBoolean() ? "ew" : "we";
    String down = random.nextBoolean() ? "sn" : "ns";
    String wrong = below(3) == 0 ? call("drop", sleeper) : "";
    int x = across.equals("ew") ? below(12) : 12 - below(12);
    int y = down.equals("sn") ? below(8) : 8 - below(8);
    wrong += call("plot", sleeper, x, y);
    int first = 1 + below(width);
    wrong += call("chain", sleeper, across.charAt(0), first);
    if (first < width) {
      wrong += call("chain", sleeper, across.charAt(0), width - first);
    }
    wrong += call("chain", sleeper, down.charAt(0), height);
    wrong += call("chain", sleeper, across.charAt(1), width);
    wrong += call("chain", sleeper, down.charAt(1), height);
    for (int i = below(8); i > 0; i--) {
      wrong += call("bend", sleeper, below(4 + below(10)), below(7) - 3);
      wrong += question();
    }
    wrong += call("sleeperOf", sleeper, 6);
    return wrong;
  }

  private String text() {
    StringBuilder text = new StringBuilder(command());
    for (int i = below(4); i > 0; i--) {
      text.append(';').append(command());
    }
    if (below(3) == 0) {
      text.insert(below(text.length() + 1), " ;019+-nesw.".charAt(below(12)));
    }
    if (below(6) == 0) {
      text.deleteCharAt(below(text.length()));
    }
    String wrong = "";
    for (int i = 0; i < text.length() && wrong.isEmpty(); i++) {
      wrong = call("type", text.charAt(i));
    }
    return wrong.isEmpty() ? call("read") + (random.nextBoolean() ? call("errorPosition") : call("account", 11)) : wrong;
  }

  private String command() {
    int sleeper = Math.floorMod(sleeper(), 10);
    return switch (below(9)) {
      case 0 -> "new " + below(10);
      case 1 -> "peg " + below(14) + " " + below(10) + " " + (2 + below(5));
      case 2 -> "plot " + sleeper + " " + below(14) + " " + below(10);
      case 3, 4 -> "lay " + sleeper + "nesw".charAt(below(4)) + below(4);
      case 5 -> "bend " + sleeper + " " + (below(5) == 0 ? "0" : "") + below(9) + "+-".charAt(below(2)) + below(3);
      case 6 -> below(4) == 0 ? "drop " + sleeper : "dusk 1";
      case 7 -> "deep " + sleeper + " " + below(10);
      default -> "dusk " + below(23);
    };
  }
}
