import java.util.ArrayDeque;
import java.util.ArrayList;
import java.util.Arrays;
import java.util.Comparator;
import java.util.List;
import java.util.NoSuchElementException;
import java.util.regex.Matcher;
import java.util.regex.Pattern;

/**
 * The document told a second time, in the plainest way and with the whole Java library: plots as lists of corners,
 * cells found by filling the map from outside, texts looked at by a regular expression, states copied as a whole.
 */
public final class Model {
  private static final Pattern TEXT;

  static {
    String number = "[0-9][0-9]?";
    String command = "(?:new [0-9]|peg " + number + " [0-9] [0-9]|plot [0-9] " + number + " [0-9]|lay [0-9][nesw][0-9]"
        + "|bend [0-9] " + number + "[+-][0-9]|drop [0-9]|deep [0-9] [0-9]|dusk " + number + ")";
    TEXT = Pattern.compile(command + "(?:;" + command + ")*");
  }

  private record Corner(int x, int y) {
    Corner next(int direction) {
      return switch (direction) {
        case 0 -> new Corner(x, y - 1);
        case 1 -> new Corner(x + 1, y);
        case 2 -> new Corner(x, y + 1);
        default -> new Corner(x - 1, y);
      };
    }

    boolean isOnMap() {
      return x >= 0 && x <= 12 && y >= 0 && y <= 8;
    }
  }

  private record Chain(int direction, int length) {
  }

  private record Peg(Corner corner, int period) {
  }

  private static final class Sleeper {
    private int depth;
    private Corner begin = null;
    private List<Chain> chains = new ArrayList<>();
    private boolean isClosed = false;

    private Sleeper copy() {
      Sleeper copy = new Sleeper();
      copy.depth = depth;
      copy.begin = begin;
      copy.chains = new ArrayList<>(chains);
      copy.isClosed = isClosed;
      return copy;
    }

    /** All corners in their order, the first one included; a closed plot has it a second time at the end. */
    private List<Corner> path() {
      List<Corner> path = new ArrayList<>(List.of(begin));
      for (Chain chain : chains) {
        for (int i = 0; i < chain.length; i++) {
          path.add(path.get(path.size() - 1).next(chain.direction));
        }
      }
      return path;
    }

    private Corner at() {
      List<Corner> path = path();
      return path.get(path.size() - 1);
    }

    private boolean[][] inside() {
      boolean[][] inside = new boolean[12][8];
      if (!isClosed) {
        return inside;
      }
      boolean[][] isOutside = new boolean[14][10];
      List<Corner> path = path();
      ArrayDeque<Corner> open = new ArrayDeque<>(List.of(new Corner(-1, -1)));
      while (!open.isEmpty()) {
        Corner cell = open.pop();
        if (cell.x < -1 || cell.x > 12 || cell.y < -1 || cell.y > 8 || isOutside[cell.x + 1][cell.y + 1]) {
          continue;
        }
        isOutside[cell.x + 1][cell.y + 1] = true;
        for (int direction = 0; direction < 4; direction++) {
          if (!isWall(path, cell, direction)) {
            open.push(cell.next(direction));
          }
        }
      }
      for (int x = 0; x < 12; x++) {
        for (int y = 0; y < 8; y++) {
          inside[x][y] = !isOutside[x + 1][y + 1];
        }
      }
      return inside;
    }

    private static boolean isWall(List<Corner> path, Corner cell, int direction) {
      Corner northWest = cell;
      Corner southEast = new Corner(cell.x + 1, cell.y + 1);
      Corner one = direction == 0 || direction == 3 ? northWest : southEast;
      Corner other = switch (direction) {
        case 0 -> one.next(1);
        case 1 -> one.next(0);
        case 2 -> one.next(3);
        default -> one.next(2);
      };
      for (int i = 0; i + 1 < path.size(); i++) {
        Corner from = path.get(i);
        Corner to = path.get(i + 1);
        if (from.equals(one) && to.equals(other) || from.equals(other) && to.equals(one)) {
          return true;
        }
      }
      return false;
    }
  }

  private static final class World {
    private List<Sleeper> sleepers = new ArrayList<>();
    private List<Peg> pegs = new ArrayList<>();
    private int hour = 0;
    private int bends = 0;

    private World copy() {
      World copy = new World();
      for (Sleeper sleeper : sleepers) {
        copy.sleepers.add(sleeper.copy());
      }
      copy.pegs = new ArrayList<>(pegs);
      copy.hour = hour;
      copy.bends = bends;
      return copy;
    }

    private int[][] owners() {
      int[][] owners = new int[12][8];
      int[][] depths = new int[12][8];
      for (int[] row : owners) {
        Arrays.fill(row, -1);
      }
      for (int i = 0; i < sleepers.size(); i++) {
        boolean[][] inside = sleepers.get(i).inside();
        for (int x = 0; x < 12; x++) {
          for (int y = 0; y < 8; y++) {
            if (inside[x][y] && sleepers.get(i).depth > depths[x][y]) {
              owners[x][y] = i;
              depths[x][y] = sleepers.get(i).depth;
            }
          }
        }
      }
      return owners;
    }

    private int cells(int sleeper) {
      int count = 0;
      for (int[] row : owners()) {
        for (int owner : row) {
          count += owner == sleeper ? 1 : 0;
        }
      }
      return count;
    }
  }

  private static final class Refused extends RuntimeException {
    private static final long serialVersionUID = 1;
  }

  private World world = new World();
  private World saved = null;
  private final List<World> past = new ArrayList<>();
  private String buffer = "";
  private String line = "";
  private Integer errorAt = null;
  private int[] reason = null;
  private int[] cause = null;

  private interface Attempt {
    int answer();
  }

  private int change(Attempt attempt) {
    World before = world.copy();
    try {
      int answer = attempt.answer();
      past.add(before);
      if (past.size() > 8) {
        past.remove(0);
      }
      return answer;
    } catch (Refused e) {
      throw new UnsupportedOperationException();
    }
  }

  private void refuse(boolean isSo, int why, int detail) {
    if (isSo) {
      reason = new int[] {why, detail};
      cause = null;
      throw new Refused();
    }
  }

  private static void place(boolean isThere) {
    if (!isThere) {
      throw new IndexOutOfBoundsException();
    }
  }

  private static void argument(boolean isRight) {
    if (!isRight) {
      throw new IllegalArgumentException();
    }
  }

  private static void element(boolean isThere) {
    if (!isThere) {
      throw new NoSuchElementException();
    }
  }

  private static void state(boolean isRight) {
    if (!isRight) {
      throw new IllegalStateException();
    }
  }

  private Sleeper get(int sleeper) {
    place(sleeper >= 0 && sleeper < world.sleepers.size());
    return world.sleepers.get(sleeper);
  }

  public int sleeper(int depth) {
    return change(() -> {
      argument(depth >= 1 && depth <= 9);
      refuse(world.sleepers.size() == 5, 1, 5);
      Sleeper sleeper = new Sleeper();
      sleeper.depth = depth;
      world.sleepers.add(sleeper);
      return world.sleepers.size() - 1;
    });
  }

  public int peg(int x, int y, int period) {
    return change(() -> {
      Corner corner = new Corner(x, y);
      place(corner.isOnMap());
      argument(period >= 2 && period <= 5);
      for (int i = 0; i < world.pegs.size(); i++) {
        refuse(world.pegs.get(i).corner.equals(corner), 2, i);
      }
      refuse(world.pegs.size() == 8, 1, 8);
      world.pegs.add(new Peg(corner, period));
      return world.pegs.size() - 1;
    });
  }

  public int plot(int sleeper, int x, int y) {
    return change(() -> {
      Sleeper who = get(sleeper);
      place(new Corner(x, y).isOnMap());
      refuse(who.begin != null, 3, who.chains.size());
      who.begin = new Corner(x, y);
      return account(4);
    });
  }

  public int chain(int sleeper, char direction, int length) {
    return change(() -> {
      Sleeper who = get(sleeper);
      int to = "nesw".indexOf(direction);
      argument(to >= 0 && length >= 1 && length <= 9);
      refuse(who.begin == null, 4, sleeper);
      refuse(who.isClosed, 5, who.chains.size());
      refuse(who.chains.size() == 16, 1, 16);
      List<Corner> been = who.path();
      Corner corner = who.at();
      for (int i = 1; i <= length; i++) {
        corner = corner.next(to);
        boolean isEnd = i == length && corner.equals(who.begin) && who.chains.size() >= 3;
        look(corner, been.contains(corner) && !isEnd, i - 1);
      }
      who.chains.add(new Chain(to, length));
      who.isClosed = corner.equals(who.begin);
      return Math.abs(corner.x - who.begin.x) + Math.abs(corner.y - who.begin.y);
    });
  }

  private void look(Corner corner, boolean isTaken, int ahead) {
    refuse(!corner.isOnMap(), 7, ahead);
    refuse(isTaken, 8, ahead);
    for (int i = 0; i < world.pegs.size(); i++) {
      Peg peg = world.pegs.get(i);
      refuse(peg.corner.equals(corner) && world.hour % peg.period == 0, 9, i);
    }
  }

  public int bend(int sleeper, int chain, int by) {
    return change(() -> {
      Sleeper who = get(sleeper);
      place(chain >= 0 && chain < who.chains.size());
      argument(by >= -9 && by <= 9 && by != 0);
      refuse(!who.isClosed, 6, who.chains.size());
      refuse(who.chains.size() > 14, 1, 16);
      Chain old = who.chains.get(chain);
      int side = by > 0 ? (old.direction + 3) % 4 : (old.direction + 1) % 4;
      int far = by > 0 ? by : -by;
      List<Chain> three = List.of(new Chain(side, far), old, new Chain((side + 2) % 4, far));
      List<Corner> others = new ArrayList<>();
      Corner from = null;
      Corner corner = who.begin;
      for (int i = 0; i < who.chains.size(); i++) {
        if (i == chain) {
          from = corner;
        } else {
          others.add(corner);
        }
        for (int step = 0; step < who.chains.get(i).length; step++) {
          corner = corner.next(who.chains.get(i).direction);
          if (i != chain) {
            others.add(corner);
          }
        }
      }
      List<Corner> way = new ArrayList<>();
      for (Chain one : three) {
        for (int step = 0; step < one.length; step++) {
          from = from.next(one.direction);
          way.add(from);
        }
      }
      way.remove(way.size() - 1);
      for (int i = 0; i < way.size(); i++) {
        look(way.get(i), others.contains(way.get(i)), i);
      }
      who.chains.remove(chain);
      who.chains.addAll(chain, three);
      world.bends++;
      return area(sleeper);
    });
  }

  public int drop(int sleeper) {
    return change(() -> {
      Sleeper who = get(sleeper);
      refuse(who.begin == null, 4, sleeper);
      int chains = who.chains.size();
      who.begin = null;
      who.chains.clear();
      who.isClosed = false;
      return chains;
    });
  }

  public int deep(int sleeper, int depth) {
    return change(() -> {
      Sleeper who = get(sleeper);
      argument(depth >= 0 && depth <= 9);
      refuse(who.depth == depth, 10, depth);
      int before = who.depth;
      who.depth = depth;
      return before;
    });
  }

  public int dusk(int hours) {
    return change(() -> {
      argument(hours >= 1 && hours <= 20);
      int awaking = 0;
      for (int i = 0; i < hours; i++) {
        world.hour++;
        for (Sleeper sleeper : world.sleepers) {
          if (sleeper.depth > 0) {
            sleeper.depth--;
            awaking += sleeper.depth == 0 ? 1 : 0;
          }
        }
      }
      return awaking;
    });
  }

  public int sleeperOf(int sleeper, int what) {
    Sleeper who = get(sleeper);
    argument(what >= 0 && what <= 6);
    boolean hasPlot = who.begin != null;
    return switch (what) {
      case 0 -> who.depth;
      case 1 -> who.isClosed ? 2 : hasPlot ? 1 : 0;
      case 2 -> who.chains.size();
      case 3 -> hasPlot ? who.at().x : -1;
      case 4 -> hasPlot ? who.at().y : -1;
      case 5 -> hasPlot ? (int) who.path().stream().distinct().count() : 0;
      default -> world.cells(sleeper);
    };
  }

  public int chainOf(int sleeper, int chain, int what) {
    Sleeper who = get(sleeper);
    place(chain >= 0 && chain < who.chains.size());
    argument(what >= 0 && what <= 3);
    Corner corner = who.begin;
    for (Chain one : who.chains.subList(0, chain)) {
      for (int i = 0; i < one.length; i++) {
        corner = corner.next(one.direction);
      }
    }
    Chain found = who.chains.get(chain);
    return List.of(found.direction, found.length, corner.x, corner.y).get(what);
  }

  public int pegOf(int peg, int what) {
    place(peg >= 0 && peg < world.pegs.size());
    argument(what >= 0 && what <= 3);
    Peg found = world.pegs.get(peg);
    int wait = 0;
    while ((world.hour + wait) % found.period != 0) {
      wait++;
    }
    return List.of(found.corner.x, found.corner.y, found.period, wait).get(what);
  }

  private static boolean isCell(int x, int y) {
    return x >= 0 && x < 12 && y >= 0 && y < 8;
  }

  public int owner(int x, int y) {
    place(isCell(x, y));
    return world.owners()[x][y];
  }

  public boolean isInside(int sleeper, int x, int y) {
    Sleeper who = get(sleeper);
    place(isCell(x, y));
    return who.inside()[x][y];
  }

  public int area(int sleeper) {
    int count = 0;
    for (boolean[] row : get(sleeper).inside()) {
      for (boolean isInside : row) {
        count += isInside ? 1 : 0;
      }
    }
    return count;
  }

  public int areaAgain(int sleeper) {
    return area(sleeper);
  }

  public int border(int one, int other) {
    get(one);
    get(other);
    int[][] owners = world.owners();
    int count = 0;
    for (int a = 0; a < 96; a++) {
      for (int b = 0; b < 96; b++) {
        boolean isNext = Math.abs(a % 12 - b % 12) + Math.abs(a / 12 - b / 12) == 1;
        if (isNext && one != other && owners[a % 12][a / 12] == one && owners[b % 12][b / 12] == other) {
          count++;
        }
      }
    }
    return count;
  }

  public int borderAgain(int one, int other) {
    return border(one, other);
  }

  public int fence(int sleeper) {
    get(sleeper);
    int[][] owners = world.owners();
    int count = 0;
    for (int x = 0; x < 12; x++) {
      for (int y = 0; y < 8; y++) {
        for (int direction = 0; direction < 4 && owners[x][y] == sleeper; direction++) {
          Corner next = new Corner(x, y).next(direction);
          count += isCell(next.x, next.y) && owners[next.x][next.y] == sleeper ? 0 : 1;
        }
      }
    }
    return count;
  }

  public int closes(int sleeper) {
    Sleeper who = get(sleeper);
    element(who.begin != null);
    List<Corner> reached = List.of(who.at());
    int chains = 0;
    while (!reached.contains(who.begin)) {
      List<Corner> further = new ArrayList<>();
      for (Corner corner : reached) {
        for (int length = -9; length <= 9; length++) {
          further.add(new Corner(corner.x + length, corner.y));
          further.add(new Corner(corner.x, corner.y + length));
        }
      }
      reached = further.stream().distinct().toList();
      chains++;
    }
    return chains;
  }

  public int would(int sleeper, int hours) {
    get(sleeper);
    argument(hours >= 0 && hours <= 20);
    World later = world.copy();
    for (Sleeper one : later.sleepers) {
      one.depth = Math.max(0, one.depth - hours);
    }
    return later.cells(sleeper);
  }

  public int ranked(int place) {
    element(place >= 0 && place < world.sleepers.size());
    List<Integer> order = new ArrayList<>();
    for (int i = 0; i < world.sleepers.size(); i++) {
      order.add(i);
    }
    order.sort(Comparator.comparing((Integer i) -> -world.cells(i)).thenComparing(i -> -world.sleepers.get(i).depth));
    return order.get(place);
  }

  public int nextLit() {
    element(!world.pegs.isEmpty());
    int hour = world.hour;
    while (true) {
      for (Peg peg : world.pegs) {
        if (hour % peg.period == 0) {
          return hour;
        }
      }
      hour++;
    }
  }

  public boolean isWell() {
    return true;
  }

  public int type(char character) {
    state(buffer.length() < 60);
    buffer += character;
    return buffer.length();
  }

  public int read() {
    String text = buffer;
    buffer = "";
    if (!TEXT.matcher(text).matches()) {
      errorAt = errorPosition(text);
      throw new IllegalArgumentException();
    }
    String[] commands = text.split(";");
    World before = world.copy();
    List<World> pastBefore = new ArrayList<>(past);
    for (int i = 0; i < commands.length; i++) {
      try {
        carryOut(commands[i]);
      } catch (UnsupportedOperationException e) {
        cause = reason;
        giveUp(before, pastBefore, i);
      } catch (IllegalArgumentException | IndexOutOfBoundsException e) {
        cause = null;
        giveUp(before, pastBefore, i);
      }
    }
    past.clear();
    past.addAll(pastBefore);
    past.add(before);
    if (past.size() > 8) {
      past.remove(0);
    }
    return commands.length;
  }

  private void giveUp(World before, List<World> pastBefore, int command) {
    reason = new int[] {11, command};
    world = before;
    past.clear();
    past.addAll(pastBefore);
    throw new UnsupportedOperationException();
  }

  private static int errorPosition(String text) {
    for (int i = 0; i < text.length(); i++) {
      Matcher matcher = TEXT.matcher(text.substring(0, i + 1));
      if (!matcher.matches() && !matcher.hitEnd()) {
        return i;
      }
    }
    return text.length();
  }

  private void carryOut(String command) {
    String[] words = command.split(" ");
    switch (words[0]) {
      case "new" -> sleeper(number(words[1]));
      case "peg" -> peg(number(words[1]), number(words[2]), number(words[3]));
      case "plot" -> plot(number(words[1]), number(words[2]), number(words[3]));
      case "lay" -> chain(words[1].charAt(0) - '0', words[1].charAt(1), words[1].charAt(2) - '0');
      case "bend" -> {
        int sign = Math.max(words[2].indexOf('+'), words[2].indexOf('-'));
        bend(number(words[1]), number(words[2].substring(0, sign)), number(words[2].substring(sign)));
      }
      case "drop" -> drop(number(words[1]));
      case "deep" -> deep(number(words[1]), number(words[2]));
      default -> dusk(number(words[1]));
    }
  }

  private static int number(String text) {
    return Integer.parseInt(text);
  }

  public int errorPosition() {
    element(errorAt != null);
    return errorAt;
  }

  public int refusal(boolean isCause, boolean isDetail) {
    int[] told = isCause ? cause : reason;
    element(told != null);
    return told[isDetail ? 1 : 0];
  }

  public int show(int y) {
    place(y >= 0 && y < 8);
    line = "";
    for (int x = 0; x < 12; x++) {
      line += owner(x, y) < 0 ? "." : owner(x, y);
    }
    return line.length();
  }

  public int tell(int sleeper) {
    Sleeper who = get(sleeper);
    line = "";
    if (who.begin != null) {
      line = "(" + who.begin.x + "," + who.begin.y + ")";
      for (Chain chain : who.chains) {
        line += "nesw".charAt(chain.direction) + "" + chain.length;
      }
      line += who.isClosed ? "!" : "";
    }
    return line.length();
  }

  public char written(int index) {
    element(index >= 0 && index < line.length());
    return line.charAt(index);
  }

  public int account(int what) {
    argument(what >= 0 && what <= 11);
    List<Sleeper> sleepers = world.sleepers;
    return switch (what) {
      case 0 -> sleepers.size();
      case 1 -> (int) sleepers.stream().filter(s -> s.depth == 0).count();
      case 2 -> world.pegs.size();
      case 3 -> (int) world.pegs.stream().filter(p -> world.hour % p.period == 0).count();
      case 4 -> (int) sleepers.stream().filter(s -> s.begin != null).count();
      case 5 -> (int) sleepers.stream().filter(s -> s.isClosed).count();
      case 6 -> sleepers.stream().mapToInt(s -> s.chains.size()).sum();
      case 7 -> 96 - world.cells(-1);
      case 8 -> world.hour;
      case 9 -> world.bends;
      case 10 -> buffer.length();
      default -> past.size();
    };
  }

  public double meanDepth() {
    if (world.sleepers.isEmpty()) {
      throw new ArithmeticException();
    }
    return (double) world.sleepers.stream().mapToInt(s -> s.depth).sum() / (double) world.sleepers.size();
  }

  public float ownedShare() {
    return (float) account(7) / (float) 96;
  }

  public int undo() {
    state(!past.isEmpty());
    world = past.remove(past.size() - 1);
    return past.size();
  }

  public int save() {
    saved = world.copy();
    return saved.sleepers.size();
  }

  public int restore() {
    state(saved != null);
    world = saved.copy();
    past.clear();
    return world.sleepers.size();
  }
}
