import java.util.NoSuchElementException;

/** A surveyor of dreams: sleepers, their plots of chains, pegs that blink, and the cells that belong to each. */
public final class DreamPlots {
  private static final int WIDTH = 12;
  private static final int HEIGHT = 8;
  private static final int MOST_SLEEPERS = 5;
  private static final int MOST_PEGS = 8;
  private static final int MOST_CHAINS = 16;
  private static final int MOST_LENGTH = 9;
  private static final int MOST_DEPTH = 9;
  private static final int MOST_HOURS = 20;
  private static final int MOST_UNDONE = 8;
  private static final int MOST_TYPED = 60;
  /** The shortest command, with the ";" behind it, has 6 characters. */
  private static final int MOST_COMMANDS = (MOST_TYPED + 1) / 6;
  /** The longest line is a plot from "(12,8)" with 16 chains of two characters each, and "!". */
  private static final int MOST_WRITTEN = 39;

  private static final int NORTH = 0;
  private static final int EAST = 1;
  private static final int SOUTH = 2;
  private static final int WEST = 3;

  private static final int NONE = -1;

  // What an attempt at a change answers when it fails; one that succeeds answers a number from 0.
  private static final int MISSING = -1;
  private static final int UNFIT = -2;
  private static final int REFUSED = -3;

  private static final int FULL = 1;
  private static final int PEG_IS_THERE = 2;
  private static final int HAS_PLOT = 3;
  private static final int HAS_NO_PLOT = 4;
  private static final int CLOSED = 5;
  private static final int NOT_CLOSED = 6;
  private static final int OFF_THE_MAP = 7;
  private static final int BEEN_THERE = 8;
  private static final int PEG_IS_LIT = 9;
  private static final int SO_ALREADY = 10;
  private static final int COMMAND_FAILED = 11;

  private static final int NEW = 0;
  private static final int PEG = 1;
  private static final int PLOT = 2;
  private static final int LAY = 3;
  private static final int BEND = 4;
  private static final int DROP = 5;
  private static final int DEEP = 6;
  private static final int DUSK = 7;
  private static final int KINDS = 8;

  private final Surveyor surveyor = new Surveyor();
  private final Dream now = surveyor.dream;
  private final Refusal latest = surveyor.refusals;
  private final Dream snapshot = new Dream();
  private boolean hasSnapshot = false;
  private final History history = new History();
  private final Cells cells = new Cells();
  private final char[] buffer = new char[MOST_TYPED];
  private int typed = 0;
  private final Commands commands = new Commands();
  private int malformedAt = NONE;
  private final Line line = new Line();

  /** Begins without sleepers and pegs, at the hour 0. */
  public DreamPlots() {
  }

  // Changes

  public int sleeper(int depth) throws IllegalArgumentException, UnsupportedOperationException {
    history.note(now);
    int answer = surveyor.letCome(depth);
    if (answer == UNFIT) {
      throw new IllegalArgumentException("the depth is out of range");
    }
    if (answer < 0) {
      throw new UnsupportedOperationException("refused");
    }
    history.keep();
    return answer;
  }

  public int peg(int x, int y, int period)
      throws IndexOutOfBoundsException, IllegalArgumentException, UnsupportedOperationException {
    history.note(now);
    int answer = surveyor.setPeg(x, y, period);
    if (answer == MISSING) {
      throw new IndexOutOfBoundsException("no such corner");
    }
    if (answer == UNFIT) {
      throw new IllegalArgumentException("the period is out of range");
    }
    if (answer < 0) {
      throw new UnsupportedOperationException("refused");
    }
    history.keep();
    return answer;
  }

  public int plot(int sleeper, int x, int y) throws IndexOutOfBoundsException, UnsupportedOperationException {
    history.note(now);
    int answer = surveyor.beginPlot(sleeper, x, y);
    if (answer == MISSING) {
      throw new IndexOutOfBoundsException("no such sleeper or corner");
    }
    if (answer < 0) {
      throw new UnsupportedOperationException("refused");
    }
    history.keep();
    return answer;
  }

  public int chain(int sleeper, char direction, int length)
      throws IndexOutOfBoundsException, IllegalArgumentException, UnsupportedOperationException {
    history.note(now);
    int answer = surveyor.layChain(sleeper, direction, length);
    if (answer == MISSING) {
      throw new IndexOutOfBoundsException("no such sleeper");
    }
    if (answer == UNFIT) {
      throw new IllegalArgumentException("no such direction, or the length is out of range");
    }
    if (answer < 0) {
      throw new UnsupportedOperationException("refused");
    }
    history.keep();
    return answer;
  }

  public int bend(int sleeper, int chain, int by)
      throws IndexOutOfBoundsException, IllegalArgumentException, UnsupportedOperationException {
    history.note(now);
    int answer = surveyor.bendChain(sleeper, chain, by);
    if (answer == MISSING) {
      throw new IndexOutOfBoundsException("no such sleeper or chain");
    }
    if (answer == UNFIT) {
      throw new IllegalArgumentException("the number is out of range or 0");
    }
    if (answer < 0) {
      throw new UnsupportedOperationException("refused");
    }
    history.keep();
    return answer;
  }

  public int drop(int sleeper) throws IndexOutOfBoundsException, UnsupportedOperationException {
    history.note(now);
    int answer = surveyor.giveUp(sleeper);
    if (answer == MISSING) {
      throw new IndexOutOfBoundsException("no such sleeper");
    }
    if (answer < 0) {
      throw new UnsupportedOperationException("refused");
    }
    history.keep();
    return answer;
  }

  public int deep(int sleeper, int depth)
      throws IndexOutOfBoundsException, IllegalArgumentException, UnsupportedOperationException {
    history.note(now);
    int answer = surveyor.giveDepth(sleeper, depth);
    if (answer == MISSING) {
      throw new IndexOutOfBoundsException("no such sleeper");
    }
    if (answer == UNFIT) {
      throw new IllegalArgumentException("the depth is out of range");
    }
    if (answer < 0) {
      throw new UnsupportedOperationException("refused");
    }
    history.keep();
    return answer;
  }

  public int dusk(int hours) throws IllegalArgumentException {
    history.note(now);
    int answer = surveyor.letHoursGoBy(hours);
    if (answer < 0) {
      throw new IllegalArgumentException("the number is out of range");
    }
    history.keep();
    return answer;
  }

  // Sleepers, chains, pegs

  public int sleeperOf(int sleeper, int what) throws IndexOutOfBoundsException, IllegalArgumentException {
    if (!now.hasSleeper(sleeper)) {
      throw new IndexOutOfBoundsException("no such sleeper");
    }
    Plot plot = now.plotOf(sleeper);
    switch (what) {
      case 0:
        return now.depthOf(sleeper);
      case 1:
        return plot.isClosed ? 2 : plot.isBegun ? 1 : 0;
      case 2:
        return plot.chains;
      case 3:
        return plot.isBegun ? plot.atX : NONE;
      case 4:
        return plot.isBegun ? plot.atY : NONE;
      case 5:
        return plot.corners();
      case 6:
        cells.survey(now, 0);
        return cells.countOf(sleeper);
      default:
        throw new IllegalArgumentException("what is not from 0 to 6");
    }
  }

  public int chainOf(int sleeper, int chain, int what) throws IndexOutOfBoundsException, IllegalArgumentException {
    Plot plot = now.plotOf(sleeper);
    if (!now.hasSleeper(sleeper) || !plot.hasChain(chain)) {
      throw new IndexOutOfBoundsException("no such sleeper or chain");
    }
    switch (what) {
      case 0:
        return plot.directionOf(chain);
      case 1:
        return plot.lengthOf(chain);
      case 2:
        return plot.startX(chain);
      case 3:
        return plot.startY(chain);
      default:
        throw new IllegalArgumentException("what is not from 0 to 3");
    }
  }

  public int pegOf(int peg, int what) throws IndexOutOfBoundsException, IllegalArgumentException {
    Pegs pegs = now.pegs;
    if (peg < 0 || peg >= pegs.count) {
      throw new IndexOutOfBoundsException("no such peg");
    }
    switch (what) {
      case 0:
        return numberAt(pegs.xs, peg);
      case 1:
        return numberAt(pegs.ys, peg);
      case 2:
        return numberAt(pegs.periods, peg);
      case 3:
        return pegs.hoursUntilLit(peg, now.hour);
      default:
        throw new IllegalArgumentException("what is not from 0 to 3");
    }
  }

  // Cells, areas, borders

  public int owner(int x, int y) throws IndexOutOfBoundsException {
    if (!isCell(x, y)) {
      throw new IndexOutOfBoundsException("no such cell");
    }
    return now.deepestAt(x, y, 0);
  }

  public boolean isInside(int sleeper, int x, int y) throws IndexOutOfBoundsException {
    if (!now.hasSleeper(sleeper) || !isCell(x, y)) {
      throw new IndexOutOfBoundsException("no such sleeper or cell");
    }
    return now.plotOf(sleeper).holds(x, y);
  }

  public int area(int sleeper) throws IndexOutOfBoundsException {
    if (!now.hasSleeper(sleeper)) {
      throw new IndexOutOfBoundsException("no such sleeper");
    }
    return now.plotOf(sleeper).areaByChains();
  }

  public int areaAgain(int sleeper) throws IndexOutOfBoundsException {
    if (!now.hasSleeper(sleeper)) {
      throw new IndexOutOfBoundsException("no such sleeper");
    }
    return now.plotOf(sleeper).areaByCells();
  }

  public int border(int one, int other) throws IndexOutOfBoundsException {
    if (!now.hasSleeper(one) || !now.hasSleeper(other)) {
      throw new IndexOutOfBoundsException("no such sleeper");
    }
    cells.survey(now, 0);
    return cells.borderByCells(one, other);
  }

  public int borderAgain(int one, int other) throws IndexOutOfBoundsException {
    if (!now.hasSleeper(one) || !now.hasSleeper(other)) {
      throw new IndexOutOfBoundsException("no such sleeper");
    }
    cells.survey(now, 0);
    return cells.borderAround(one, other);
  }

  public int fence(int sleeper) throws IndexOutOfBoundsException {
    if (!now.hasSleeper(sleeper)) {
      throw new IndexOutOfBoundsException("no such sleeper");
    }
    cells.survey(now, 0);
    return cells.openSides(sleeper);
  }

  // What would be, orders

  public int closes(int sleeper) throws IndexOutOfBoundsException, NoSuchElementException {
    if (!now.hasSleeper(sleeper)) {
      throw new IndexOutOfBoundsException("no such sleeper");
    }
    Plot plot = now.plotOf(sleeper);
    if (!plot.isBegun) {
      throw new NoSuchElementException("no plot");
    }
    return chainsFor(plot.atX - plot.beginX) + chainsFor(plot.atY - plot.beginY);
  }

  public int would(int sleeper, int hours) throws IndexOutOfBoundsException, IllegalArgumentException {
    if (!now.hasSleeper(sleeper)) {
      throw new IndexOutOfBoundsException("no such sleeper");
    }
    if (!isFrom(hours, 0, MOST_HOURS)) {
      throw new IllegalArgumentException("the number is out of range");
    }
    cells.survey(now, hours);
    return cells.countOf(sleeper);
  }

  public int ranked(int place) throws NoSuchElementException {
    if (place < 0 || place >= now.sleepers) {
      throw new NoSuchElementException("no such place");
    }
    cells.survey(now, 0);
    int found = 0;
    for (int sleeper = 0; sleeper < now.sleepers; sleeper++) {
      if (sleepersAheadOf(sleeper) == place) {
        found = sleeper;
      }
    }
    return found;
  }

  public int nextLit() throws NoSuchElementException {
    if (now.pegs.count == 0) {
      throw new NoSuchElementException("no pegs");
    }
    return now.hour + now.pegs.hoursUntilAnyLit(now.hour);
  }

  public boolean isWell() {
    cells.survey(now, 0);
    return areAreasAlike() && areBordersAlike() && areOwnersRight();
  }

  // Commands, lines

  public int type(char character) throws IllegalStateException {
    if (typed < 0 || typed >= buffer.length) {
      throw new IllegalStateException("the input buffer is full");
    }
    buffer[typed] = character;
    typed++;
    return typed;
  }

  public int read() throws IllegalArgumentException, UnsupportedOperationException {
    int length = typed;
    typed = 0;
    int wrongAt = commands.understand(buffer, length);
    if (wrongAt >= 0) {
      malformedAt = wrongAt;
      throw new IllegalArgumentException("the text is malformed");
    }
    history.note(now);
    for (int i = 0; i < commands.count; i++) {
      int answer = carryOut(i);
      if (answer < 0) {
        latest.refuseCommand(i, answer == REFUSED);
        history.takeBack(now);
        throw new UnsupportedOperationException("refused");
      }
    }
    history.keep();
    return commands.count;
  }

  public int errorPosition() throws NoSuchElementException {
    if (malformedAt < 0) {
      throw new NoSuchElementException("no text was malformed");
    }
    return malformedAt;
  }

  public int refusal(boolean isCause, boolean isDetail) throws NoSuchElementException {
    int reason = isCause ? latest.causeReason : latest.reason;
    if (reason == 0) {
      throw new NoSuchElementException("nothing was refused, or there is no cause");
    }
    if (!isDetail) {
      return reason;
    }
    return isCause ? latest.causeDetail : latest.detail;
  }

  public int show(int y) throws IndexOutOfBoundsException {
    if (!isCell(0, y)) {
      throw new IndexOutOfBoundsException("no such row");
    }
    cells.survey(now, 0);
    line.clear();
    for (int x = 0; x < WIDTH; x++) {
      int owner = cells.ownerAt(x, y);
      if (owner == NONE) {
        line.put('.');
      } else {
        line.putNumber(owner);
      }
    }
    return line.length;
  }

  public int tell(int sleeper) throws IndexOutOfBoundsException {
    if (!now.hasSleeper(sleeper)) {
      throw new IndexOutOfBoundsException("no such sleeper");
    }
    line.clear();
    Plot plot = now.plotOf(sleeper);
    if (plot.isBegun) {
      line.putPlot(plot);
    }
    return line.length;
  }

  public char written(int index) throws NoSuchElementException {
    if (index < 0 || index >= line.length || index >= line.characters.length) {
      throw new NoSuchElementException("no such character");
    }
    return line.characters[index];
  }

  // Accounts

  public int account(int what) throws IllegalArgumentException {
    switch (what) {
      case 0:
        return now.sleepers;
      case 1:
        return now.countAwake();
      case 2:
        return now.pegs.count;
      case 3:
        return now.pegs.countLit(now.hour);
      case 4:
        return now.countPlots();
      case 5:
        return now.countClosed();
      case 6:
        return now.countChains();
      case 7:
        cells.survey(now, 0);
        return cells.countOwned();
      case 8:
        return now.hour;
      case 9:
        return now.bends;
      case 10:
        return typed;
      case 11:
        return history.count;
      default:
        throw new IllegalArgumentException("what is not from 0 to 11");
    }
  }

  public double meanDepth() throws ArithmeticException {
    if (now.sleepers == 0) {
      throw new ArithmeticException("no sleepers");
    }
    return (double) now.sumOfDepths() / (double) now.sleepers;
  }

  public float ownedShare() {
    cells.survey(now, 0);
    return (float) cells.countOwned() / (float) (WIDTH * HEIGHT);
  }

  // Undo, the snapshot

  public int undo() throws IllegalStateException {
    if (history.count == 0) {
      throw new IllegalStateException("no change can be undone");
    }
    history.bringBack(now);
    return history.count;
  }

  public int save() {
    snapshot.copyFrom(now);
    hasSnapshot = true;
    return now.sleepers;
  }

  public int restore() throws IllegalStateException {
    if (!hasSnapshot) {
      throw new IllegalStateException("no snapshot");
    }
    now.copyFrom(snapshot);
    history.clear();
    return now.sleepers;
  }

  // Parts of the calls above

  private int carryOut(int command) {
    int first = numberAt(commands.firsts, command);
    int second = numberAt(commands.seconds, command);
    int third = numberAt(commands.thirds, command);
    switch (numberAt(commands.kinds, command)) {
      case NEW:
        return surveyor.letCome(first);
      case PEG:
        return surveyor.setPeg(first, second, third);
      case PLOT:
        return surveyor.beginPlot(first, second, third);
      case LAY:
        return surveyor.layChain(first, second, third);
      case BEND:
        return surveyor.bendChain(first, second, third);
      case DROP:
        return surveyor.giveUp(first);
      case DEEP:
        return surveyor.giveDepth(first, second);
      default:
        return surveyor.letHoursGoBy(first);
    }
  }

  private int sleepersAheadOf(int sleeper) {
    int ahead = 0;
    for (int other = 0; other < now.sleepers; other++) {
      if (isAhead(other, sleeper)) {
        ahead++;
      }
    }
    return ahead;
  }

  private boolean isAhead(int one, int other) {
    int moreCells = cells.countOf(one) - cells.countOf(other);
    if (moreCells != 0) {
      return moreCells > 0;
    }
    int deeper = now.depthOf(one) - now.depthOf(other);
    return deeper != 0 ? deeper > 0 : one < other;
  }

  private boolean areAreasAlike() {
    for (int sleeper = 0; sleeper < now.sleepers; sleeper++) {
      Plot plot = now.plotOf(sleeper);
      if (plot.areaByChains() != plot.areaByCells()) {
        return false;
      }
    }
    return true;
  }

  private boolean areBordersAlike() {
    for (int one = 0; one < now.sleepers; one++) {
      for (int other = 0; other < now.sleepers; other++) {
        if (cells.borderByCells(one, other) != cells.borderAround(one, other)) {
          return false;
        }
      }
    }
    return true;
  }

  private boolean areOwnersRight() {
    for (int y = 0; y < HEIGHT; y++) {
      for (int x = 0; x < WIDTH; x++) {
        int owner = cells.ownerAt(x, y);
        if (owner != NONE && (now.depthOf(owner) == 0 || !now.plotOf(owner).holds(x, y))) {
          return false;
        }
      }
    }
    return true;
  }

  // Numbers, places, directions

  /** Every row is read through this, so that no index is used without a look at it. */
  private static int numberAt(int[] row, int index) {
    return index >= 0 && index < row.length ? row[index] : 0;
  }

  private static void setNumberAt(int[] row, int index, int number) {
    if (index >= 0 && index < row.length) {
      row[index] = number;
    }
  }

  private static void copyNumbers(int[] from, int[] to) {
    System.arraycopy(from, 0, to, 0, Math.min(from.length, to.length));
  }

  private static boolean isFrom(int number, int least, int most) {
    return number >= least && number <= most;
  }

  private static boolean isCell(int x, int y) {
    return isFrom(x, 0, WIDTH - 1) && isFrom(y, 0, HEIGHT - 1);
  }

  private static boolean isCorner(int x, int y) {
    return isFrom(x, 0, WIDTH) && isFrom(y, 0, HEIGHT);
  }

  private static int stepX(int direction) {
    return direction == EAST ? 1 : direction == WEST ? -1 : 0;
  }

  private static int stepY(int direction) {
    return direction == SOUTH ? 1 : direction == NORTH ? -1 : 0;
  }

  private static int leftOf(int direction) {
    return direction == NORTH ? WEST : direction - 1;
  }

  private static int oppositeOf(int direction) {
    return leftOf(leftOf(direction));
  }

  private static int directionFor(int letter) {
    switch (letter) {
      case 'n':
        return NORTH;
      case 'e':
        return EAST;
      case 's':
        return SOUTH;
      case 'w':
        return WEST;
      default:
        return NONE;
    }
  }

  private static char letterFor(int direction) {
    switch (direction) {
      case NORTH:
        return 'n';
      case EAST:
        return 'e';
      case SOUTH:
        return 's';
      default:
        return 'w';
    }
  }

  /** Rounded up: what the longest chains leave over takes a chain too. */
  private static int chainsFor(int distance) {
    return (Math.abs(distance) + MOST_LENGTH - 1) / MOST_LENGTH;
  }

  /** The plot of a sleeper, or the lack of one. */
  private static final class Plot {
    private boolean isBegun = false;
    private boolean isClosed = false;
    private int beginX = 0;
    private int beginY = 0;
    private int atX = 0;
    private int atY = 0;
    private int chains = 0;
    private final int[] directions = new int[MOST_CHAINS];
    private final int[] lengths = new int[MOST_CHAINS];

    void copyFrom(Plot other) {
      isBegun = other.isBegun;
      isClosed = other.isClosed;
      beginX = other.beginX;
      beginY = other.beginY;
      atX = other.atX;
      atY = other.atY;
      chains = other.chains;
      copyNumbers(other.directions, directions);
      copyNumbers(other.lengths, lengths);
    }

    void begin(int x, int y) {
      isBegun = true;
      isClosed = false;
      beginX = x;
      beginY = y;
      atX = x;
      atY = y;
      chains = 0;
    }

    void end() {
      isBegun = false;
      isClosed = false;
      chains = 0;
    }

    /** Closes the plot too if it comes to where it begins: no chain may come there otherwise. */
    void add(int direction, int length) {
      setChain(chains, direction, length);
      chains++;
      atX += stepX(direction) * length;
      atY += stepY(direction) * length;
      isClosed = atX == beginX && atY == beginY;
    }

    void replaceByThree(int chain, int side, int far) {
      int direction = directionOf(chain);
      int length = lengthOf(chain);
      for (int i = chains - 1; i > chain; i--) {
        setChain(i + 2, directionOf(i), lengthOf(i));
      }
      setChain(chain, side, far);
      setChain(chain + 1, direction, length);
      setChain(chain + 2, oppositeOf(side), far);
      chains += 2;
    }

    private void setChain(int chain, int direction, int length) {
      setNumberAt(directions, chain, direction);
      setNumberAt(lengths, chain, length);
    }

    boolean hasChain(int chain) {
      return chain >= 0 && chain < chains;
    }

    int directionOf(int chain) {
      return numberAt(directions, chain);
    }

    int lengthOf(int chain) {
      return numberAt(lengths, chain);
    }

    /** The x of the corner from which a chain goes on. */
    int startX(int chain) {
      int x = beginX;
      for (int i = 0; i < chain && i < chains; i++) {
        x += stepX(directionOf(i)) * lengthOf(i);
      }
      return x;
    }

    /** The y of the corner from which a chain goes on. */
    int startY(int chain) {
      int y = beginY;
      for (int i = 0; i < chain && i < chains; i++) {
        y += stepY(directionOf(i)) * lengthOf(i);
      }
      return y;
    }

    /** No corner is gone over twice, so lengths can be summed; a closed plot ends where it begins. */
    int corners() {
      if (!isBegun) {
        return 0;
      }
      int sum = isClosed ? 0 : 1;
      for (int i = 0; i < chains; i++) {
        sum += lengthOf(i);
      }
      return sum;
    }

    /** Whether a chain, but for the one that is left out, goes over a corner or starts there. */
    boolean goesOver(int x, int y, int leftOut) {
      int fromX = beginX;
      int fromY = beginY;
      for (int i = 0; i < chains; i++) {
        int toX = fromX + stepX(directionOf(i)) * lengthOf(i);
        int toY = fromY + stepY(directionOf(i)) * lengthOf(i);
        boolean isOnIt = isFrom(x, Math.min(fromX, toX), Math.max(fromX, toX))
            && isFrom(y, Math.min(fromY, toY), Math.max(fromY, toY));
        if (isOnIt && i != leftOut) {
          return true;
        }
        fromX = toX;
        fromY = toY;
      }
      return false;
    }

    /** A cell lies within the chains if a line from it to the east crosses an odd number of them. */
    boolean holds(int x, int y) {
      if (!isClosed) {
        return false;
      }
      boolean isOdd = false;
      int chainX = beginX;
      int fromY = beginY;
      for (int i = 0; i < chains; i++) {
        int toY = fromY + stepY(directionOf(i)) * lengthOf(i);
        if (chainX > x && Math.min(fromY, toY) <= y && y < Math.max(fromY, toY)) {
          isOdd = !isOdd;
        }
        chainX += stepX(directionOf(i)) * lengthOf(i);
        fromY = toY;
      }
      return isOdd;
    }

    /** Chains to the east and to the west count the cells to the north of them, with opposite signs. */
    int areaByChains() {
      if (!isClosed) {
        return 0;
      }
      int sum = 0;
      int y = beginY;
      for (int i = 0; i < chains; i++) {
        sum += stepX(directionOf(i)) * lengthOf(i) * y;
        y += stepY(directionOf(i)) * lengthOf(i);
      }
      return Math.abs(sum);
    }

    int areaByCells() {
      int count = 0;
      for (int y = 0; y < HEIGHT; y++) {
        for (int x = 0; x < WIDTH; x++) {
          if (holds(x, y)) {
            count++;
          }
        }
      }
      return count;
    }
  }

  /** The pegs, in the order in which they were set. */
  private static final class Pegs {
    private int count = 0;
    private final int[] xs = new int[MOST_PEGS];
    private final int[] ys = new int[MOST_PEGS];
    private final int[] periods = new int[MOST_PEGS];

    void copyFrom(Pegs other) {
      count = other.count;
      copyNumbers(other.xs, xs);
      copyNumbers(other.ys, ys);
      copyNumbers(other.periods, periods);
    }

    void add(int x, int y, int period) {
      setNumberAt(xs, count, x);
      setNumberAt(ys, count, y);
      setNumberAt(periods, count, period);
      count++;
    }

    int findAt(int x, int y) {
      for (int i = 0; i < count; i++) {
        if (numberAt(xs, i) == x && numberAt(ys, i) == y) {
          return i;
        }
      }
      return NONE;
    }

    int hoursUntilLit(int peg, int hour) {
      int period = numberAt(periods, peg);
      if (period <= 0) {
        return 0;
      }
      int since = hour % period;
      return since == 0 ? 0 : period - since;
    }

    int hoursUntilAnyLit(int hour) {
      int least = hoursUntilLit(0, hour);
      for (int i = 1; i < count; i++) {
        least = Math.min(least, hoursUntilLit(i, hour));
      }
      return least;
    }

    int countLit(int hour) {
      int lit = 0;
      for (int i = 0; i < count; i++) {
        if (hoursUntilLit(i, hour) == 0) {
          lit++;
        }
      }
      return lit;
    }
  }

  /** All that changes can change. */
  private static final class Dream {
    private int sleepers = 0;
    private final int[] depths = new int[MOST_SLEEPERS];
    private final Plot[] plots = new Plot[MOST_SLEEPERS];
    /** Stands for the plot of a sleeper that there is not, so that no plot is ever null. */
    private final Plot nobodys = new Plot();
    private final Pegs pegs = new Pegs();
    private int hour = 0;
    private int bends = 0;

    Dream() {
      for (int i = 0; i < plots.length; i++) {
        plots[i] = new Plot();
      }
    }

    void copyFrom(Dream other) {
      sleepers = other.sleepers;
      copyNumbers(other.depths, depths);
      for (int i = 0; i < MOST_SLEEPERS; i++) {
        plotOf(i).copyFrom(other.plotOf(i));
      }
      pegs.copyFrom(other.pegs);
      hour = other.hour;
      bends = other.bends;
    }

    boolean hasSleeper(int sleeper) {
      return sleeper >= 0 && sleeper < sleepers;
    }

    int depthOf(int sleeper) {
      return numberAt(depths, sleeper);
    }

    Plot plotOf(int sleeper) {
      Plot found = sleeper >= 0 && sleeper < plots.length ? plots[sleeper] : nobodys;
      return found != null ? found : nobodys;
    }

    /** To whom a cell belongs when some hours more have gone by. */
    int deepestAt(int x, int y, int hours) {
      int deepest = NONE;
      int most = 0;
      for (int i = 0; i < sleepers; i++) {
        int depth = depthOf(i) - hours;
        if (depth > most && plotOf(i).holds(x, y)) {
          deepest = i;
          most = depth;
        }
      }
      return deepest;
    }

    int countAwake() {
      int count = 0;
      for (int i = 0; i < sleepers; i++) {
        if (depthOf(i) == 0) {
          count++;
        }
      }
      return count;
    }

    int sumOfDepths() {
      int sum = 0;
      for (int i = 0; i < sleepers; i++) {
        sum += depthOf(i);
      }
      return sum;
    }

    int countPlots() {
      int count = 0;
      for (int i = 0; i < sleepers; i++) {
        if (plotOf(i).isBegun) {
          count++;
        }
      }
      return count;
    }

    int countClosed() {
      int count = 0;
      for (int i = 0; i < sleepers; i++) {
        if (plotOf(i).isClosed) {
          count++;
        }
      }
      return count;
    }

    int countChains() {
      int sum = 0;
      for (int i = 0; i < sleepers; i++) {
        sum += plotOf(i).chains;
      }
      return sum;
    }
  }

  /** The latest refusal; a reason of 0 is none. */
  private static final class Refusal {
    private int reason = 0;
    private int detail = 0;
    private int causeReason = 0;
    private int causeDetail = 0;

    int refuse(int newReason, int newDetail) {
      reason = newReason;
      detail = newDetail;
      causeReason = 0;
      causeDetail = 0;
      return REFUSED;
    }

    /** If the command itself was refused, its refusal is the latest one here, and becomes the cause. */
    void refuseCommand(int command, boolean hasCause) {
      causeReason = hasCause ? reason : 0;
      causeDetail = hasCause ? detail : 0;
      reason = COMMAND_FAILED;
      detail = command;
    }
  }

  /** Attempts changes: each answers a number from 0, or MISSING, UNFIT or REFUSED and changes nothing. */
  private static final class Surveyor {
    private static final int LEAST_AHEAD_OF_CLOSING = 3;

    private final Dream dream = new Dream();
    private final Refusal refusals = new Refusal();

    int letCome(int depth) {
      if (!isFrom(depth, 1, MOST_DEPTH)) {
        return UNFIT;
      }
      if (dream.sleepers >= MOST_SLEEPERS) {
        return refusals.refuse(FULL, MOST_SLEEPERS);
      }
      int sleeper = dream.sleepers;
      setNumberAt(dream.depths, sleeper, depth);
      dream.plotOf(sleeper).end();
      dream.sleepers++;
      return sleeper;
    }

    int setPeg(int x, int y, int period) {
      if (!isCorner(x, y)) {
        return MISSING;
      }
      if (!isFrom(period, 2, 5)) {
        return UNFIT;
      }
      Pegs pegs = dream.pegs;
      int there = pegs.findAt(x, y);
      if (there != NONE) {
        return refusals.refuse(PEG_IS_THERE, there);
      }
      if (pegs.count >= MOST_PEGS) {
        return refusals.refuse(FULL, MOST_PEGS);
      }
      pegs.add(x, y, period);
      return pegs.count - 1;
    }

    int beginPlot(int sleeper, int x, int y) {
      if (!dream.hasSleeper(sleeper) || !isCorner(x, y)) {
        return MISSING;
      }
      Plot plot = dream.plotOf(sleeper);
      if (plot.isBegun) {
        return refusals.refuse(HAS_PLOT, plot.chains);
      }
      plot.begin(x, y);
      return dream.countPlots();
    }

    int layChain(int sleeper, int letter, int length) {
      if (!dream.hasSleeper(sleeper)) {
        return MISSING;
      }
      int direction = directionFor(letter);
      if (direction == NONE || !isFrom(length, 1, MOST_LENGTH)) {
        return UNFIT;
      }
      Plot plot = dream.plotOf(sleeper);
      if (!plot.isBegun) {
        return refusals.refuse(HAS_NO_PLOT, sleeper);
      }
      if (plot.isClosed) {
        return refusals.refuse(CLOSED, plot.chains);
      }
      if (plot.chains >= MOST_CHAINS) {
        return refusals.refuse(FULL, MOST_CHAINS);
      }
      if (isLayingBarred(plot, direction, length)) {
        return REFUSED;
      }
      plot.add(direction, length);
      return Math.abs(plot.atX - plot.beginX) + Math.abs(plot.atY - plot.beginY);
    }

    private boolean isLayingBarred(Plot plot, int direction, int length) {
      int x = plot.atX;
      int y = plot.atY;
      for (int gone = 0; gone < length; gone++) {
        x += stepX(direction);
        y += stepY(direction);
        boolean mayClose = gone == length - 1 && plot.chains >= LEAST_AHEAD_OF_CLOSING;
        boolean doesClose = mayClose && x == plot.beginX && y == plot.beginY;
        if (isBarred(x, y, gone, !doesClose && plot.goesOver(x, y, NONE))) {
          return true;
        }
      }
      return false;
    }

    int bendChain(int sleeper, int chain, int by) {
      Plot plot = dream.plotOf(sleeper);
      if (!dream.hasSleeper(sleeper) || !plot.hasChain(chain)) {
        return MISSING;
      }
      if (by == 0 || !isFrom(by, -MOST_LENGTH, MOST_LENGTH)) {
        return UNFIT;
      }
      if (!plot.isClosed) {
        return refusals.refuse(NOT_CLOSED, plot.chains);
      }
      if (plot.chains + 2 > MOST_CHAINS) {
        return refusals.refuse(FULL, MOST_CHAINS);
      }
      int left = leftOf(plot.directionOf(chain));
      int side = by > 0 ? left : oppositeOf(left);
      if (isBendingBarred(plot, chain, side, Math.abs(by))) {
        return REFUSED;
      }
      plot.replaceByThree(chain, side, Math.abs(by));
      dream.bends++;
      return plot.areaByChains();
    }

    private boolean isBendingBarred(Plot plot, int chain, int side, int far) {
      int x = plot.startX(chain);
      int y = plot.startY(chain);
      int turn = far + plot.lengthOf(chain);
      for (int gone = 0; gone < turn + far - 1; gone++) {
        int direction = gone < far ? side : gone < turn ? plot.directionOf(chain) : oppositeOf(side);
        x += stepX(direction);
        y += stepY(direction);
        if (isBarred(x, y, gone, plot.goesOver(x, y, chain))) {
          return true;
        }
      }
      return false;
    }

    /** Keeps the refusal if the corner can't be gone over, with so many gone over ahead of it. */
    private boolean isBarred(int x, int y, int gone, boolean isTaken) {
      if (!isCorner(x, y)) {
        refusals.refuse(OFF_THE_MAP, gone);
        return true;
      }
      if (isTaken) {
        refusals.refuse(BEEN_THERE, gone);
        return true;
      }
      int peg = dream.pegs.findAt(x, y);
      if (peg != NONE && dream.pegs.hoursUntilLit(peg, dream.hour) == 0) {
        refusals.refuse(PEG_IS_LIT, peg);
        return true;
      }
      return false;
    }

    int giveUp(int sleeper) {
      if (!dream.hasSleeper(sleeper)) {
        return MISSING;
      }
      Plot plot = dream.plotOf(sleeper);
      if (!plot.isBegun) {
        return refusals.refuse(HAS_NO_PLOT, sleeper);
      }
      int chains = plot.chains;
      plot.end();
      return chains;
    }

    int giveDepth(int sleeper, int depth) {
      if (!dream.hasSleeper(sleeper)) {
        return MISSING;
      }
      if (!isFrom(depth, 0, MOST_DEPTH)) {
        return UNFIT;
      }
      int before = dream.depthOf(sleeper);
      if (before == depth) {
        return refusals.refuse(SO_ALREADY, depth);
      }
      setNumberAt(dream.depths, sleeper, depth);
      return before;
    }

    int letHoursGoBy(int hours) {
      if (!isFrom(hours, 1, MOST_HOURS)) {
        return UNFIT;
      }
      int awakeBefore = dream.countAwake();
      for (int i = 0; i < dream.sleepers; i++) {
        setNumberAt(dream.depths, i, Math.max(0, dream.depthOf(i) - hours));
      }
      dream.hour += hours;
      return dream.countAwake() - awakeBefore;
    }
  }

  /** To whom each cell belongs, as it was surveyed last; one object is used for all surveys. */
  private static final class Cells {
    private final int[] owners = new int[WIDTH * HEIGHT];
    private final int[] counts = new int[MOST_SLEEPERS];

    void survey(Dream dream, int hours) {
      for (int i = 0; i < counts.length; i++) {
        counts[i] = 0;
      }
      for (int y = 0; y < HEIGHT; y++) {
        for (int x = 0; x < WIDTH; x++) {
          int owner = dream.deepestAt(x, y, hours);
          setNumberAt(owners, y * WIDTH + x, owner);
          if (owner != NONE) {
            setNumberAt(counts, owner, countOf(owner) + 1);
          }
        }
      }
    }

    /** None outside of the map too. */
    int ownerAt(int x, int y) {
      return isCell(x, y) ? numberAt(owners, y * WIDTH + x) : NONE;
    }

    int countOf(int sleeper) {
      return numberAt(counts, sleeper);
    }

    int countOwned() {
      int sum = 0;
      for (int i = 0; i < counts.length; i++) {
        sum += counts[i];
      }
      return sum;
    }

    int borderByCells(int one, int other) {
      int pairs = 0;
      for (int y = 0; y < HEIGHT; y++) {
        for (int x = 0; x < WIDTH; x++) {
          int owner = ownerAt(x, y);
          if (areBoth(owner, ownerAt(x + 1, y), one, other)) {
            pairs++;
          }
          if (areBoth(owner, ownerAt(x, y + 1), one, other)) {
            pairs++;
          }
        }
      }
      return pairs;
    }

    private static boolean areBoth(int owner, int next, int one, int other) {
      return owner != next && (owner == one && next == other || owner == other && next == one);
    }

    int borderAround(int one, int other) {
      if (one == other) {
        return 0;
      }
      int pairs = 0;
      for (int y = 0; y < HEIGHT; y++) {
        for (int x = 0; x < WIDTH; x++) {
          if (ownerAt(x, y) == other) {
            pairs += sidesTowards(one, x, y);
          }
        }
      }
      return pairs;
    }

    int openSides(int sleeper) {
      int sides = 0;
      for (int y = 0; y < HEIGHT; y++) {
        for (int x = 0; x < WIDTH; x++) {
          if (ownerAt(x, y) == sleeper) {
            sides += 4 - sidesTowards(sleeper, x, y);
          }
        }
      }
      return sides;
    }

    private int sidesTowards(int sleeper, int x, int y) {
      int sides = 0;
      for (int direction = NORTH; direction <= WEST; direction++) {
        if (ownerAt(x + stepX(direction), y + stepY(direction)) == sleeper) {
          sides++;
        }
      }
      return sides;
    }
  }

  /** What there was before each of the latest changes. */
  private static final class History {
    private final Dream[] past = new Dream[MOST_UNDONE];
    /** Kept apart from the others: a change that fails must not push the oldest of them out. */
    private final Dream before = new Dream();
    private int next = 0;
    private int count = 0;

    History() {
      for (int i = 0; i < past.length; i++) {
        past[i] = new Dream();
      }
    }

    void clear() {
      count = 0;
    }

    /** Comes ahead of an attempt at a change. */
    void note(Dream dream) {
      before.copyFrom(dream);
    }

    /** Comes after an attempt that succeeded. */
    void keep() {
      pastAt(next).copyFrom(before);
      next = (next + 1) % MOST_UNDONE;
      count = Math.min(count + 1, MOST_UNDONE);
    }

    /** Comes after an attempt that failed midway. */
    void takeBack(Dream dream) {
      dream.copyFrom(before);
    }

    void bringBack(Dream dream) {
      next = (next + MOST_UNDONE - 1) % MOST_UNDONE;
      count--;
      dream.copyFrom(pastAt(next));
    }

    private Dream pastAt(int index) {
      Dream found = index >= 0 && index < past.length ? past[index] : before;
      return found != null ? found : before;
    }
  }

  /** The commands of a text, with up to three numbers each; a direction is kept as its letter. */
  private static final class Commands {
    private int count = 0;
    private final int[] kinds = new int[MOST_COMMANDS];
    private final int[] firsts = new int[MOST_COMMANDS];
    private final int[] seconds = new int[MOST_COMMANDS];
    private final int[] thirds = new int[MOST_COMMANDS];
    private final int[] numbers = new int[3];

    /** Answers the error position, or NONE for a text that is well formed. */
    int understand(char[] text, int length) {
      count = 0;
      int at = 0;
      for (int i = 0; i < MOST_COMMANDS; i++) {
        int end = understandOne(text, length, at);
        if (end < 0) {
          return -1 - end;
        }
        if (end == length) {
          return NONE;
        }
        if (characterAt(text, length, end) != ';') {
          return end;
        }
        at = end + 1;
      }
      // So many commands with a ";" behind each fill the buffer: no other can follow.
      return at;
    }

    /**
     * Answers the index behind the command, or, if there is none, -1 less the error position. A text can go on as
     * long as it can as one of the kinds, so the error position is the greatest that there is for any of them.
     */
    private int understandOne(char[] text, int length, int from) {
      int farthest = from;
      for (int kind = 0; kind < KINDS; kind++) {
        int end = match(formOf(kind), text, length, from);
        if (end >= 0) {
          add(kind);
          return end;
        }
        farthest = Math.max(farthest, -1 - end);
      }
      return -1 - farthest;
    }

    private void add(int kind) {
      setNumberAt(kinds, count, kind);
      setNumberAt(firsts, count, numberAt(numbers, 0));
      setNumberAt(seconds, count, numberAt(numbers, 1));
      setNumberAt(thirds, count, numberAt(numbers, 2));
      count++;
    }

    /** In a form "#" is for a digit, "%" for a number, "@" for a direction, and "~" for a sign. */
    private static String formOf(int kind) {
      switch (kind) {
        case NEW:
          return "new #";
        case PEG:
          return "peg % # #";
        case PLOT:
          return "plot # % #";
        case LAY:
          return "lay #@#";
        case BEND:
          return "bend # %~#";
        case DROP:
          return "drop #";
        case DEEP:
          return "deep # #";
        default:
          return "dusk %";
      }
    }

    /** Answers the index behind what has this form, or -1 less the index at which it can't go on. */
    private int match(String form, char[] text, int length, int from) {
      int at = from;
      int found = 0;
      int sign = 1;
      for (int i = 0; i < form.length(); i++) {
        char part = form.charAt(i);
        int character = characterAt(text, length, at);
        if (!isFit(part, character)) {
          return -1 - at;
        }
        at++;
        if (part == '#' || part == '%') {
          int number = character - '0';
          int next = characterAt(text, length, at);
          if (part == '%' && isDigit(next)) {
            number = number * 10 + next - '0';
            at++;
          }
          setNumberAt(numbers, found, number * sign);
          found++;
        } else if (part == '@') {
          setNumberAt(numbers, found, character);
          found++;
        } else if (part == '~') {
          sign = character == '-' ? -1 : 1;
        }
      }
      return at;
    }

    private static boolean isFit(char part, int character) {
      switch (part) {
        case '#':
        case '%':
          return isDigit(character);
        case '@':
          return directionFor(character) != NONE;
        case '~':
          return character == '+' || character == '-';
        default:
          return character == part;
      }
    }

    private static boolean isDigit(int character) {
      return isFrom(character, '0', '9');
    }

    /** NONE, which no character is, behind the end of the text. */
    private static int characterAt(char[] text, int length, int index) {
      return index >= 0 && index < length && index < text.length ? text[index] : NONE;
    }
  }

  /** The line that was written last. */
  private static final class Line {
    private final char[] characters = new char[MOST_WRITTEN];
    private int length = 0;

    void clear() {
      length = 0;
    }

    void put(char character) {
      if (length >= 0 && length < characters.length) {
        characters[length] = character;
        length++;
      }
    }

    void putNumber(int number) {
      if (number >= 10) {
        put((char) ('0' + number / 10));
      }
      put((char) ('0' + number % 10));
    }

    void putPlot(Plot plot) {
      put('(');
      putNumber(plot.beginX);
      put(',');
      putNumber(plot.beginY);
      put(')');
      for (int i = 0; i < plot.chains; i++) {
        put(letterFor(plot.directionOf(i)));
        putNumber(plot.lengthOf(i));
      }
      if (plot.isClosed) {
        put('!');
      }
    }
  }
}
