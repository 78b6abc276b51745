/** Promises 13 to 24: cells, areas, borders, what would be, orders. */
public final class CellsTest {
  /** Sleeper 0 has the cells from 0, 0 to 4, 4, sleeper 1 those from 3, 3 to 8, 6, and sleeper 2 has no plot. */
  private static final String TWO_PLOTS = """
      sleeper(3)
      sleeper(3)
      sleeper(9)
      plot(0,0,0)
      chain(0,e,5)
      chain(0,s,5)
      chain(0,w,5)
      chain(0,n,5)
      plot(1,3,3)
      chain(1,e,6)
      chain(1,s,4)
      chain(1,w,6)
      chain(1,n,4)
      """;

  private CellsTest() {
  }

  public static void main(String[] args) {
    owners();
    insides();
    areas();
    borders();
    fences();
    closings();
    cellsToCome();
    orders();
    litHours();
    wellness();
    Script.end("CellsTest");
  }

  private static void owners() {
    Script.run("13: owner", TWO_PLOTS + """
        owner(-1,0) -> IndexOutOfBounds
        owner(12,0) -> IndexOutOfBounds
        owner(0,-1) -> IndexOutOfBounds
        owner(0,8) -> IndexOutOfBounds
        owner(11,7) -> -1
        owner(0,0) -> 0
        owner(4,0) -> 0
        owner(5,0) -> -1
        owner(4,4) -> 0
        owner(3,3) -> 0
        owner(5,4) -> 1
        owner(8,6) -> 1
        owner(9,6) -> -1
        owner(8,7) -> -1
        deep(1,4)
        owner(4,4) -> 1
        owner(2,3) -> 0
        deep(1,2)
        owner(4,4) -> 0
        deep(0,0)
        owner(4,4) -> 1
        owner(0,0) -> -1
        deep(1,0)
        owner(4,4) -> -1
        """);
  }

  private static void insides() {
    Script.run("14: isInside", TWO_PLOTS + """
        isInside(3,0,0) -> IndexOutOfBounds
        isInside(-1,0,0) -> IndexOutOfBounds
        isInside(0,12,0) -> IndexOutOfBounds
        isInside(0,0,8) -> IndexOutOfBounds
        isInside(0,-1,0) -> IndexOutOfBounds
        isInside(0,0,-1) -> IndexOutOfBounds
        isInside(2,0,0) -> false
        isInside(0,4,4) -> true
        isInside(1,4,4) -> true
        isInside(0,5,4) -> false
        isInside(1,2,3) -> false
        dusk(9)
        isInside(1,4,4) -> true
        plot(2,0,0)
        chain(2,e,5)
        chain(2,s,5)
        chain(2,w,5)
        isInside(2,1,1) -> false
        chain(2,n,5)
        isInside(2,1,1) -> true
        drop(2)
        isInside(2,1,1) -> false
        """);
    Script.run("14: within a plot that turns", """
        sleeper(1)
        plot(0,0,0)
        chain(0,s,3)
        chain(0,e,3)
        chain(0,n,3)
        chain(0,w,1)
        chain(0,s,2)
        chain(0,w,1)
        chain(0,n,2)
        chain(0,w,1)
        isInside(0,0,0) -> true
        isInside(0,1,0) -> false
        isInside(0,1,1) -> false
        isInside(0,1,2) -> true
        isInside(0,2,0) -> true
        isInside(0,3,0) -> false
        """);
  }

  private static void areas() {
    Script.run("15, 16: area, areaAgain", TWO_PLOTS + """
        area(3) -> IndexOutOfBounds
        area(-1) -> IndexOutOfBounds
        areaAgain(3) -> IndexOutOfBounds
        areaAgain(-1) -> IndexOutOfBounds
        area(0) -> 25
        areaAgain(0) -> 25
        area(1) -> 24
        areaAgain(1) -> 24
        area(2) -> 0
        areaAgain(2) -> 0
        dusk(9)
        area(0) -> 25
        areaAgain(0) -> 25
        plot(2,3,3)
        chain(2,w,2)
        chain(2,s,2)
        chain(2,e,2)
        area(2) -> 0
        areaAgain(2) -> 0
        chain(2,n,2)
        area(2) -> 4
        areaAgain(2) -> 4
        """);
    Script.run("15, 16: the whole map", """
        sleeper(1)
        plot(0,12,8)
        chain(0,w,9)
        chain(0,w,3)
        chain(0,n,8)
        chain(0,e,9)
        chain(0,e,3)
        chain(0,s,8)
        area(0) -> 96
        areaAgain(0) -> 96
        account(7) -> 96
        ownedShare() -> 1.0
        fence(0) -> 40
        """);
  }

  private static void borders() {
    Script.run("17, 18: border, borderAgain", TWO_PLOTS + """
        border(0,3) -> IndexOutOfBounds
        border(3,0) -> IndexOutOfBounds
        border(-1,0) -> IndexOutOfBounds
        border(0,-1) -> IndexOutOfBounds
        borderAgain(0,3) -> IndexOutOfBounds
        borderAgain(3,0) -> IndexOutOfBounds
        borderAgain(-1,0) -> IndexOutOfBounds
        borderAgain(0,-1) -> IndexOutOfBounds
        border(0,0) -> 0
        borderAgain(0,0) -> 0
        border(0,1) -> 4
        border(1,0) -> 4
        borderAgain(0,1) -> 4
        borderAgain(1,0) -> 4
        border(0,2) -> 0
        borderAgain(2,0) -> 0
        deep(1,5)
        border(0,1) -> 4
        deep(0,0)
        border(0,1) -> 0
        borderAgain(1,0) -> 0
        """);
    Script.run("17, 18: one inside the other", """
        sleeper(3)
        sleeper(4)
        plot(0,0,0)
        chain(0,e,5)
        chain(0,s,5)
        chain(0,w,5)
        chain(0,n,5)
        plot(1,1,1)
        chain(1,e,2)
        chain(1,s,3)
        chain(1,w,2)
        chain(1,n,3)
        border(0,1) -> 10
        borderAgain(0,1) -> 10
        border(1,0) -> 10
        borderAgain(1,0) -> 10
        border(1,1) -> 0
        borderAgain(1,1) -> 0
        fence(0) -> 30
        fence(1) -> 10
        sleeperOf(0,6) -> 19
        isWell() -> true
        """);
  }

  private static void fences() {
    Script.run("19: fence", TWO_PLOTS + """
        fence(3) -> IndexOutOfBounds
        fence(-1) -> IndexOutOfBounds
        fence(0) -> 20
        fence(1) -> 20
        fence(2) -> 0
        deep(1,9)
        fence(0) -> 20
        dusk(3)
        fence(0) -> 0
        fence(1) -> 20
        """);
  }

  private static void closings() {
    Script.run("20: closes", """
        closes(0) -> IndexOutOfBounds
        sleeper(1)
        closes(-1) -> IndexOutOfBounds
        closes(0) -> NoSuchElement
        plot(0,0,0)
        closes(0) -> 0
        chain(0,e,9)
        closes(0) -> 1
        chain(0,e,1)
        closes(0) -> 2
        chain(0,s,1)
        closes(0) -> 3
        chain(0,w,1)
        closes(0) -> 2
        chain(0,w,9)
        closes(0) -> 1
        chain(0,n,1)
        closes(0) -> 0
        drop(0)
        closes(0) -> NoSuchElement
        plot(0,12,8)
        chain(0,n,8)
        closes(0) -> 1
        chain(0,w,9)
        closes(0) -> 2
        chain(0,w,3)
        closes(0) -> 3
        """);
  }

  private static void cellsToCome() {
    Script.run("21: would", TWO_PLOTS + """
        would(3,0) -> IndexOutOfBounds
        would(-1,21) -> IndexOutOfBounds
        would(0,-1) -> IllegalArgument
        would(0,21) -> IllegalArgument
        would(0,0) -> 25
        would(1,0) -> 20
        would(1,2) -> 20
        would(1,3) -> 0
        deep(1,4)
        would(0,2) -> 21
        would(0,3) -> 0
        would(1,3) -> 24
        would(1,4) -> 0
        would(2,20) -> 0
        sleeperOf(0,0) -> 3
        deep(0,5)
        would(1,3) -> 20
        would(0,4) -> 25
        """);
  }

  private static void orders() {
    Script.run("22: ranked", TWO_PLOTS + """
        ranked(-1) -> NoSuchElement
        ranked(3) -> NoSuchElement
        ranked(0) -> 0
        ranked(1) -> 1
        ranked(2) -> 2
        deep(1,4)
        ranked(0) -> 1
        ranked(1) -> 0
        drop(0)
        ranked(0) -> 1
        ranked(1) -> 2
        ranked(2) -> 0
        deep(2,3)
        ranked(1) -> 0
        ranked(2) -> 2
        """);
  }

  private static void litHours() {
    Script.run("23: nextLit", """
        nextLit() -> NoSuchElement
        peg(0,0,5)
        nextLit() -> 0
        dusk(1)
        nextLit() -> 5
        peg(1,0,3)
        nextLit() -> 3
        dusk(3)
        nextLit() -> 5
        dusk(1)
        nextLit() -> 5
        dusk(1)
        nextLit() -> 6
        dusk(20)
        nextLit() -> 27
        """);
  }

  private static void wellness() {
    Script.run("24: isWell", TWO_PLOTS + """
        isWell() -> true
        plot(2,4,0)
        chain(2,e,4)
        isWell() -> true
        chain(2,s,7)
        chain(2,w,4)
        chain(2,n,7)
        isWell() -> true
        bend(2,3,2) -> 42
        isWell() -> true
        dusk(3)
        isWell() -> true
        dusk(9)
        isWell() -> true
        """);
  }
}
