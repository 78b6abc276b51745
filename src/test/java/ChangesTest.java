/** Promises 1 to 12: sleepers, pegs, plots. */
public final class ChangesTest {
  private ChangesTest() {
  }

  public static void main(String[] args) {
    newObject();
    sleepers();
    pegs();
    plots();
    chains();
    barredChains();
    chainLimit();
    bends();
    barredBends();
    bendLimit();
    drops();
    depths();
    hours();
    numbersOfSleepers();
    numbersOfChains();
    numbersOfPegs();
    Script.end("ChangesTest");
  }

  private static void newObject() {
    StringBuilder lines = new StringBuilder();
    for (int what = 0; what <= 11; what++) {
      lines.append("account(").append(what).append(") -> 0\n");
    }
    Script.run("1: a new object", lines + """
        line -> empty
        owner(0,0) -> -1
        isWell() -> true
        refused -> NoSuchElement NoSuchElement
        cause -> NoSuchElement NoSuchElement
        sleeperOf(0,0) -> IndexOutOfBounds
        pegOf(0,0) -> IndexOutOfBounds
        """);
  }

  private static void sleepers() {
    Script.run("2: sleeper", """
        sleeper(0) -> IllegalArgument
        sleeper(10) -> IllegalArgument
        sleeper(-1) -> IllegalArgument
        sleeper(-2147483648) -> IllegalArgument
        account(0) -> 0
        sleeper(1) -> 0
        sleeper(9) -> 1
        sleeper(5) -> 2
        sleeper(5) -> 3
        sleeper(4) -> 4
        sleeperOf(0,0) -> 1
        sleeperOf(1,0) -> 9
        sleeperOf(4,0) -> 4
        refused -> NoSuchElement NoSuchElement
        sleeper(10) -> IllegalArgument
        refused -> NoSuchElement NoSuchElement
        sleeper(9) -> UnsupportedOperation
        refused -> 1 5
        cause -> NoSuchElement NoSuchElement
        account(0) -> 5
        account(11) -> 5
        """);
  }

  private static void pegs() {
    Script.run("3: peg", """
        peg(-1,0,2) -> IndexOutOfBounds
        peg(13,0,2) -> IndexOutOfBounds
        peg(0,-1,2) -> IndexOutOfBounds
        peg(0,9,2) -> IndexOutOfBounds
        peg(13,0,1) -> IndexOutOfBounds
        peg(2147483647,2147483647,2) -> IndexOutOfBounds
        peg(0,0,1) -> IllegalArgument
        peg(0,0,6) -> IllegalArgument
        peg(12,8,2) -> 0
        peg(0,0,5) -> 1
        peg(12,0,3) -> 2
        peg(0,8,4) -> 3
        peg(12,8,5) -> UnsupportedOperation
        refused -> 2 0
        peg(0,8,6) -> IllegalArgument
        peg(0,8,4) -> UnsupportedOperation
        refused -> 2 3
        peg(1,1,2) -> 4
        peg(2,1,2) -> 5
        peg(3,1,2) -> 6
        peg(4,1,2) -> 7
        peg(5,1,2) -> UnsupportedOperation
        refused -> 1 8
        peg(4,1,2) -> UnsupportedOperation
        refused -> 2 7
        account(2) -> 8
        """);
    Script.run("3: a peg on a plot", """
        sleeper(1)
        plot(0,0,0)
        chain(0,e,3)
        peg(1,0,2) -> 0
        sleeperOf(0,2) -> 1
        """);
  }

  private static void plots() {
    Script.run("4: plot", """
        plot(0,0,0) -> IndexOutOfBounds
        sleeper(1)
        sleeper(1)
        plot(-1,0,0) -> IndexOutOfBounds
        plot(2,0,0) -> IndexOutOfBounds
        plot(0,13,0) -> IndexOutOfBounds
        plot(0,0,9) -> IndexOutOfBounds
        plot(0,-1,0) -> IndexOutOfBounds
        plot(0,0,-1) -> IndexOutOfBounds
        plot(1,12,8) -> 1
        plot(1,13,8) -> IndexOutOfBounds
        plot(1,0,0) -> UnsupportedOperation
        refused -> 3 0
        chain(1,n,3)
        chain(1,w,3)
        plot(1,0,0) -> UnsupportedOperation
        refused -> 3 2
        plot(0,12,8) -> 2
        sleeperOf(0,1) -> 1
        sleeperOf(0,2) -> 0
        sleeperOf(0,5) -> 1
        """);
    Script.run("4: a plot can begin at a peg that is lit", """
        sleeper(1)
        peg(3,3,2)
        plot(0,3,3) -> 1
        """);
  }

  private static void chains() {
    Script.run("5: chain", """
        chain(0,e,1) -> IndexOutOfBounds
        sleeper(3)
        sleeper(3)
        chain(2,x,0) -> IndexOutOfBounds
        chain(-1,e,1) -> IndexOutOfBounds
        chain(0,x,1) -> IllegalArgument
        chain(0,N,1) -> IllegalArgument
        chain(0,e,0) -> IllegalArgument
        chain(0,e,10) -> IllegalArgument
        chain(0,e,-1) -> IllegalArgument
        chain(1,e,9) -> UnsupportedOperation
        refused -> 4 1
        plot(0,2,1)
        chain(0,e,9) -> 9
        chain(0,s,2) -> 11
        chain(0,w,4) -> 7
        chain(0,w,5) -> 2
        sleeperOf(0,1) -> 1
        chain(0,n,2) -> 0
        sleeperOf(0,1) -> 2
        chain(0,n,1) -> UnsupportedOperation
        refused -> 5 5
        tell(0)
        line -> (2,1)e9s2w4w5n2!
        """);
    Script.run("5: a chain may lie on the plot of another", """
        sleeper(3)
        sleeper(3)
        plot(0,0,0)
        chain(0,e,4) -> 4
        plot(1,2,0)
        chain(1,e,4) -> 4
        chain(1,s,8) -> 12
        """);
  }

  private static void barredChains() {
    Script.run("5: off the map", """
        sleeper(3)
        plot(0,10,6)
        chain(0,e,3) -> UnsupportedOperation
        refused -> 7 2
        chain(0,s,9) -> UnsupportedOperation
        refused -> 7 2
        sleeperOf(0,2) -> 0
        chain(0,e,2) -> 2
        chain(0,e,1) -> UnsupportedOperation
        refused -> 7 0
        chain(0,n,7) -> UnsupportedOperation
        refused -> 7 6
        """);
    Script.run("5: where the plot has been", """
        sleeper(3)
        plot(0,0,0)
        chain(0,e,1) -> 1
        chain(0,w,1) -> UnsupportedOperation
        refused -> 8 0
        chain(0,w,2) -> UnsupportedOperation
        refused -> 8 0
        chain(0,e,1) -> 2
        chain(0,e,2) -> 4
        chain(0,s,3) -> 7
        chain(0,w,2) -> 5
        chain(0,n,4) -> UnsupportedOperation
        refused -> 8 2
        chain(0,w,2) -> 3
        chain(0,n,4) -> UnsupportedOperation
        refused -> 8 2
        chain(0,n,3) -> 0
        """);
    Script.run("5: only the last corner may close", """
        sleeper(3)
        plot(0,2,2)
        chain(0,e,2)
        chain(0,s,2)
        chain(0,w,2)
        chain(0,n,3) -> UnsupportedOperation
        refused -> 8 1
        """);
    Script.run("5: a peg that is lit", """
        sleeper(3)
        peg(0,3,2) -> 0
        peg(3,0,2) -> 1
        plot(0,0,0)
        chain(0,e,2) -> 2
        chain(0,e,2) -> UnsupportedOperation
        refused -> 9 1
        dusk(1)
        chain(0,e,2) -> 4
        dusk(1)
        sleeperOf(0,2) -> 2
        chain(0,w,1) -> UnsupportedOperation
        refused -> 8 0
        """);
    Script.run("5: a peg that is lit comes ahead of a corner out of the map, and behind one of the plot", """
        sleeper(3)
        peg(12,0,2)
        peg(4,1,2)
        plot(0,5,0)
        chain(0,e,9) -> UnsupportedOperation
        refused -> 9 0
        dusk(1)
        chain(0,w,1)
        chain(0,s,1)
        dusk(1)
        chain(0,n,1) -> UnsupportedOperation
        refused -> 8 0
        chain(0,s,1) -> 3
        chain(0,n,1) -> UnsupportedOperation
        refused -> 8 0
        """);
    Script.run("5: a peg that is lit where the plot begins keeps it open", """
        sleeper(3)
        peg(1,1,2)
        plot(0,1,1)
        chain(0,e,1)
        chain(0,s,1)
        chain(0,w,1)
        chain(0,n,1) -> UnsupportedOperation
        refused -> 9 0
        sleeperOf(0,1) -> 1
        dusk(1)
        chain(0,n,1) -> 0
        """);
  }

  private static void chainLimit() {
    Script.run("5: at most 16 chains", """
        sleeper(3)
        plot(0,0,0)
        chain(0,e,1)
        chain(0,s,1)
        chain(0,e,1)
        chain(0,s,1)
        chain(0,e,1)
        chain(0,s,1)
        chain(0,e,1)
        chain(0,s,1)
        chain(0,e,1)
        chain(0,s,1)
        chain(0,e,1)
        chain(0,s,1)
        chain(0,e,1)
        chain(0,s,1)
        chain(0,e,1)
        chain(0,s,1) -> 16
        chain(0,s,1) -> UnsupportedOperation
        refused -> 1 16
        chain(0,s,10) -> IllegalArgument
        tell(0) -> 37
        line -> (0,0)e1s1e1s1e1s1e1s1e1s1e1s1e1s1e1s1
        """);
  }

  private static void bends() {
    String square = """
        sleeper(3)
        plot(0,4,3)
        chain(0,e,2)
        chain(0,s,2)
        chain(0,w,2)
        chain(0,n,2)
        """;
    Script.run("6: bend out", square + """
        bend(0,0,1) -> 6
        tell(0)
        line -> (4,3)n1e2s1s2w2n2!
        bend(0,3,2) -> 10
        tell(0)
        line -> (4,3)n1e2s1e2s2w2w2n2!
        account(9) -> 2
        area(0) -> 10
        areaAgain(0) -> 10
        sleeperOf(0,2) -> 8
        sleeperOf(0,3) -> 4
        sleeperOf(0,4) -> 3
        sleeperOf(0,5) -> 14
        """);
    Script.run("6: bend each side out and in", square + """
        bend(0,3,1) -> 6
        undo()
        bend(0,2,1) -> 6
        undo()
        bend(0,1,1) -> 6
        tell(0)
        line -> (4,3)e2e1s2w1w2n2!
        undo()
        bend(0,1,-1) -> UnsupportedOperation
        refused -> 8 0
        """);
    Script.run("6: bend in", """
        sleeper(3)
        plot(0,0,0)
        chain(0,e,1)
        chain(0,e,2)
        chain(0,e,1)
        chain(0,s,3)
        chain(0,w,4)
        chain(0,n,3)
        bend(0,1,-2) -> 8
        tell(0)
        line -> (0,0)e1s2e2n2e1s3w4n3!
        area(0) -> 8
        areaAgain(0) -> 8
        isInside(0,1,0) -> false
        isInside(0,1,1) -> false
        isInside(0,1,2) -> true
        isInside(0,0,0) -> true
        isInside(0,3,0) -> true
        """);
    Script.run("6: wrong numbers", square + """
        bend(1,0,1) -> IndexOutOfBounds
        bend(-1,0,1) -> IndexOutOfBounds
        bend(0,4,1) -> IndexOutOfBounds
        bend(0,-1,1) -> IndexOutOfBounds
        bend(0,4,0) -> IndexOutOfBounds
        bend(0,0,0) -> IllegalArgument
        bend(0,0,10) -> IllegalArgument
        bend(0,0,-10) -> IllegalArgument
        bend(0,0,-2147483648) -> IllegalArgument
        account(9) -> 0
        account(11) -> 6
        """);
    Script.run("6: not closed, or no plot", """
        sleeper(3)
        bend(0,0,1) -> IndexOutOfBounds
        plot(0,1,1)
        bend(0,0,1) -> IndexOutOfBounds
        chain(0,e,2)
        bend(0,0,0) -> IllegalArgument
        bend(0,0,1) -> UnsupportedOperation
        refused -> 6 1
        """);
  }

  private static void barredBends() {
    String square = """
        sleeper(3)
        plot(0,4,3)
        chain(0,e,2)
        chain(0,s,2)
        chain(0,w,2)
        chain(0,n,2)
        """;
    Script.run("6: off the map", square + """
        bend(0,0,4) -> UnsupportedOperation
        refused -> 7 3
        bend(0,0,3) -> 10
        bend(0,3,9) -> UnsupportedOperation
        refused -> 7 6
        """);
    Script.run("6: other chains are in the way on each of the three", """
        sleeper(3)
        plot(0,2,2)
        chain(0,e,3)
        chain(0,e,2)
        chain(0,e,1)
        chain(0,s,2)
        chain(0,w,6)
        chain(0,n,2)
        bend(0,1,-2) -> UnsupportedOperation
        refused -> 8 1
        bend(0,1,-1) -> 10
        tell(0)
        line -> (2,2)e3s1e2n1e1s2w6n2!
        bend(0,0,2) -> 16
        undo()
        bend(0,4,9) -> UnsupportedOperation
        refused -> 7 2
        bend(0,4,2) -> 12
        tell(0)
        line -> (2,2)e3s1e2n1n2e1s2s2w6n2!
        bend(0,0,1) -> 15
        bend(0,0,-1) -> UnsupportedOperation
        refused -> 8 1
        bend(0,6,3) -> UnsupportedOperation
        refused -> 8 1
        """);
    Script.run("6: the third chain meets one", """
        sleeper(3)
        plot(0,2,4)
        chain(0,e,2)
        chain(0,n,1)
        chain(0,e,2)
        chain(0,s,3)
        chain(0,w,4)
        chain(0,n,2)
        bend(0,0,1) -> UnsupportedOperation
        refused -> 8 2
        bend(0,0,2) -> UnsupportedOperation
        refused -> 8 4
        bend(0,2,2) -> 14
        """);
    Script.run("6: pegs", square + """
        peg(4,2,2)
        peg(5,2,3)
        peg(6,3,2)
        peg(4,3,2)
        bend(0,0,1) -> UnsupportedOperation
        refused -> 9 0
        dusk(3)
        bend(0,0,1) -> UnsupportedOperation
        refused -> 9 1
        dusk(1)
        undo()
        undo()
        dusk(1)
        bend(0,0,1) -> 6
        """);
    Script.run("6: lit pegs at both ends do not count", square + """
        peg(6,3,2)
        peg(4,3,2)
        peg(5,3,2)
        bend(0,0,1) -> 6
        """);
  }

  private static void bendLimit() {
    Script.run("6: 15 chains can't be bent", """
        sleeper(3)
        plot(0,0,0)
        chain(0,e,1)
        chain(0,e,1)
        chain(0,e,1)
        chain(0,e,1)
        chain(0,e,1)
        chain(0,e,1)
        chain(0,e,1)
        chain(0,e,1)
        chain(0,e,1)
        chain(0,e,1)
        chain(0,e,1)
        chain(0,s,2)
        chain(0,w,9)
        chain(0,w,2)
        chain(0,n,2) -> 0
        sleeperOf(0,2) -> 15
        bend(0,0,-1) -> UnsupportedOperation
        refused -> 1 16
        bend(0,0,1) -> UnsupportedOperation
        refused -> 1 16
        bend(0,0,0) -> IllegalArgument
        bend(0,15,1) -> IndexOutOfBounds
        """);
    Script.run("6: 14 chains can be bent, 16 can't", """
        sleeper(3)
        plot(0,1,1)
        chain(0,e,1)
        chain(0,e,1)
        chain(0,e,1)
        chain(0,e,1)
        chain(0,e,1)
        chain(0,e,1)
        chain(0,e,1)
        chain(0,e,1)
        chain(0,e,1)
        chain(0,e,1)
        chain(0,s,2)
        chain(0,w,9)
        chain(0,w,1)
        chain(0,n,2) -> 0
        bend(0,13,1) -> 22
        sleeperOf(0,2) -> 16
        bend(0,0,1) -> UnsupportedOperation
        refused -> 1 16
        tell(0)
        line -> (1,1)e1e1e1e1e1e1e1e1e1e1s2w9w1w1n2e1!
        isWell() -> true
        """);
  }

  private static void drops() {
    Script.run("7: drop", """
        drop(0) -> IndexOutOfBounds
        sleeper(3)
        sleeper(3)
        drop(-1) -> IndexOutOfBounds
        drop(2) -> IndexOutOfBounds
        drop(1) -> UnsupportedOperation
        refused -> 4 1
        plot(1,3,3)
        drop(1) -> 0
        plot(1,3,3) -> 1
        chain(1,n,1)
        chain(1,e,1)
        drop(1) -> 2
        drop(1) -> UnsupportedOperation
        sleeperOf(1,1) -> 0
        sleeperOf(1,2) -> 0
        sleeperOf(1,3) -> -1
        sleeperOf(1,4) -> -1
        sleeperOf(1,5) -> 0
        tell(1) -> 0
        plot(1,0,0) -> 1
        chain(1,e,1)
        chain(1,s,1)
        chain(1,w,1)
        chain(1,n,1)
        account(7) -> 1
        drop(1) -> 4
        account(7) -> 0
        area(1) -> 0
        """);
  }

  private static void depths() {
    Script.run("8: deep", """
        deep(0,3) -> IndexOutOfBounds
        sleeper(3)
        deep(1,3) -> IndexOutOfBounds
        deep(-1,30) -> IndexOutOfBounds
        deep(0,-1) -> IllegalArgument
        deep(0,10) -> IllegalArgument
        deep(0,3) -> UnsupportedOperation
        refused -> 10 3
        deep(0,0) -> 3
        deep(0,0) -> UnsupportedOperation
        refused -> 10 0
        account(1) -> 1
        deep(0,9) -> 0
        sleeperOf(0,0) -> 9
        """);
  }

  private static void hours() {
    Script.run("9: dusk", """
        dusk(0) -> IllegalArgument
        dusk(21) -> IllegalArgument
        dusk(-1) -> IllegalArgument
        dusk(20) -> 0
        account(8) -> 20
        sleeper(1)
        sleeper(3)
        sleeper(4)
        sleeper(9)
        dusk(1) -> 1
        sleeperOf(0,0) -> 0
        sleeperOf(1,0) -> 2
        dusk(3) -> 2
        sleeperOf(2,0) -> 0
        sleeperOf(3,0) -> 5
        account(1) -> 3
        account(8) -> 24
        dusk(4) -> 0
        dusk(20) -> 1
        account(8) -> 48
        """);
  }

  private static void numbersOfSleepers() {
    Script.run("10: sleeperOf", """
        sleeperOf(0,7) -> IndexOutOfBounds
        sleeper(4)
        sleeperOf(1,0) -> IndexOutOfBounds
        sleeperOf(-1,0) -> IndexOutOfBounds
        sleeperOf(0,7) -> IllegalArgument
        sleeperOf(0,-1) -> IllegalArgument
        sleeperOf(0,0) -> 4
        sleeperOf(0,1) -> 0
        sleeperOf(0,2) -> 0
        sleeperOf(0,3) -> -1
        sleeperOf(0,4) -> -1
        sleeperOf(0,5) -> 0
        sleeperOf(0,6) -> 0
        plot(0,7,2)
        sleeperOf(0,1) -> 1
        sleeperOf(0,3) -> 7
        sleeperOf(0,4) -> 2
        sleeperOf(0,5) -> 1
        chain(0,w,3)
        chain(0,s,1)
        sleeperOf(0,2) -> 2
        sleeperOf(0,3) -> 4
        sleeperOf(0,4) -> 3
        sleeperOf(0,5) -> 5
        sleeperOf(0,6) -> 0
        chain(0,e,3)
        chain(0,n,1)
        sleeperOf(0,1) -> 2
        sleeperOf(0,2) -> 4
        sleeperOf(0,3) -> 7
        sleeperOf(0,4) -> 2
        sleeperOf(0,5) -> 8
        sleeperOf(0,6) -> 3
        """);
  }

  private static void numbersOfChains() {
    Script.run("11: chainOf", """
        chainOf(0,0,0) -> IndexOutOfBounds
        sleeper(4)
        chainOf(0,0,9) -> IndexOutOfBounds
        plot(0,7,2)
        chainOf(0,0,0) -> IndexOutOfBounds
        chain(0,w,3)
        chain(0,s,1)
        chain(0,e,2)
        chain(0,s,2)
        chainOf(0,4,0) -> IndexOutOfBounds
        chainOf(0,-1,0) -> IndexOutOfBounds
        chainOf(1,0,0) -> IndexOutOfBounds
        chainOf(-1,0,0) -> IndexOutOfBounds
        chainOf(0,0,4) -> IllegalArgument
        chainOf(0,0,-1) -> IllegalArgument
        chainOf(0,0,0) -> 3
        chainOf(0,1,0) -> 2
        chainOf(0,2,0) -> 1
        chainOf(0,0,1) -> 3
        chainOf(0,1,1) -> 1
        chainOf(0,0,2) -> 7
        chainOf(0,0,3) -> 2
        chainOf(0,1,2) -> 4
        chainOf(0,1,3) -> 2
        chainOf(0,2,2) -> 4
        chainOf(0,2,3) -> 3
        chainOf(0,3,2) -> 6
        chainOf(0,3,3) -> 3
        drop(0)
        chainOf(0,0,0) -> IndexOutOfBounds
        plot(0,0,8)
        chain(0,n,8)
        chainOf(0,0,0) -> 0
        """);
  }

  private static void numbersOfPegs() {
    Script.run("12: pegOf", """
        pegOf(0,4) -> IndexOutOfBounds
        peg(7,8,3)
        peg(12,1,5)
        pegOf(2,0) -> IndexOutOfBounds
        pegOf(-1,0) -> IndexOutOfBounds
        pegOf(0,4) -> IllegalArgument
        pegOf(0,-1) -> IllegalArgument
        pegOf(0,0) -> 7
        pegOf(0,1) -> 8
        pegOf(0,2) -> 3
        pegOf(0,3) -> 0
        pegOf(1,0) -> 12
        pegOf(1,1) -> 1
        pegOf(1,2) -> 5
        dusk(1)
        pegOf(0,3) -> 2
        pegOf(1,3) -> 4
        dusk(1)
        pegOf(0,3) -> 1
        dusk(1)
        pegOf(0,3) -> 0
        pegOf(1,3) -> 2
        """);
  }
}
