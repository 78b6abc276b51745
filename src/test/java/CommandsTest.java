/** Promises 25 to 34: commands, lines, accounts. */
public final class CommandsTest {
  private CommandsTest() {
  }

  public static void main(String[] args) {
    typing();
    reading();
    refusedTexts();
    malformedTexts();
    refusals();
    rows();
    plotsAsText();
    accounts();
    means();
    shares();
    Script.end("CommandsTest");
  }

  private static void typing() {
    StringBuilder lines = new StringBuilder();
    for (int i = 1; i <= 60; i++) {
      lines.append("type(n) -> ").append(i).append('\n');
    }
    Script.run("25: type", lines + """
        type(n) -> IllegalState
        account(10) -> 60
        read() -> IllegalArgument
        errorPosition() -> 1
        account(10) -> 0
        type(n) -> 1
        """);
    DreamPlots dreams = new DreamPlots();
    dreams.type((char) 0);
    dreams.type((char) 65535);
    Script.run("25: any character", """
        account(10) -> 2
        read() -> IllegalArgument
        errorPosition() -> 0
        """, dreams);
  }

  private static void reading() {
    Script.run("26: read", """
        text(new 5;plot 0 1 1;lay 0e3;lay 0s2;lay 0w3;lay 0n2;bend 0 0+1) -> 7
        account(10) -> 0
        account(11) -> 1
        tell(0)
        line -> (1,1)n1e3s1s2w3n2!
        text(bend 0 04-1) -> UnsupportedOperation
        text(bend 0 04+1) -> 1
        text(drop 0) -> 1
        text(plot 0 12 8;peg 11 7 4;peg 9 6 2) -> 3
        pegOf(0,0) -> 11
        pegOf(0,1) -> 7
        pegOf(0,2) -> 4
        sleeperOf(0,3) -> 12
        sleeperOf(0,4) -> 8
        text(deep 0 0;deep 0 9) -> 2
        text(dusk 2;dusk 05;dusk 20) -> 3
        account(8) -> 27
        text(new 1;new 2;new 3;new 4) -> 4
        account(0) -> 5
        account(11) -> 7
        undo() -> 6
        account(0) -> 1
        undo() -> 5
        account(8) -> 0
        """);
    Script.run("26: as many commands as there can be", """
        text(drop 0;drop 0;drop 0;drop 0;drop 0;drop 0;drop 0;drop 0) -> UnsupportedOperation
        refused -> 11 0
        text(dusk 1;dusk 1;dusk 1;dusk 1;dusk 1;dusk 1;dusk 1;dusk 1) -> 8
        account(8) -> 8
        text(new 1;new 2;new 3;new 4;new 5;new 6;new 7;new 8;new 9;new 1) -> UnsupportedOperation
        refused -> 11 5
        cause -> 1 5
        account(0) -> 0
        text(new 1;new 2;new 3;new 4;new 5;new 6;new 7;new 8;new 9;new 1;) -> IllegalArgument
        errorPosition() -> 60
        """);
    Script.run("26: a bend to the right", """
        text(new 5;plot 0 1 1;lay 0e1;lay 0e3;lay 0e1;lay 0s2;lay 0w5)
        text(lay 0n2;bend 0 1-1) -> 2
        area(0) -> 7
        """);
  }

  private static void refusedTexts() {
    Script.run("26: all or none", """
        sleeper(4)
        plot(0,3,3)
        text(lay 0e2;lay 0e2;lay 0e9) -> UnsupportedOperation
        refused -> 11 2
        cause -> 7 5
        sleeperOf(0,2) -> 0
        account(10) -> 0
        account(11) -> 2
        text(new 3;peg 1 1 2;dusk 3;deep 0 9;drop 0;drop 0) -> UnsupportedOperation
        refused -> 11 5
        cause -> 4 0
        account(0) -> 1
        account(2) -> 0
        account(8) -> 0
        sleeperOf(0,0) -> 4
        sleeperOf(0,1) -> 1
        account(11) -> 2
        """);
    Script.run("26: another exception is no cause", """
        drop(0) -> IndexOutOfBounds
        text(new 3;drop 0) -> UnsupportedOperation
        refused -> 11 1
        cause -> 4 0
        text(dusk 1;drop 0) -> UnsupportedOperation
        refused -> 11 1
        cause -> NoSuchElement NoSuchElement
        text(new 0) -> UnsupportedOperation
        refused -> 11 0
        cause -> NoSuchElement NoSuchElement
        text(peg 13 0 2) -> UnsupportedOperation
        cause -> NoSuchElement NoSuchElement
        text(peg 12 0 9) -> UnsupportedOperation
        cause -> NoSuchElement NoSuchElement
        text(dusk 00) -> UnsupportedOperation
        cause -> NoSuchElement NoSuchElement
        text(dusk 21) -> UnsupportedOperation
        cause -> NoSuchElement NoSuchElement
        text(new 3;deep 0 3) -> UnsupportedOperation
        cause -> 10 3
        text(new 3;lay 0e0) -> UnsupportedOperation
        cause -> NoSuchElement NoSuchElement
        text(new 3;plot 0 1 1;plot 0 1 9) -> UnsupportedOperation
        refused -> 11 2
        cause -> NoSuchElement NoSuchElement
        text(new 3;plot 0 1 1;plot 0 1 8) -> UnsupportedOperation
        cause -> 3 0
        text(new 3;plot 0 1 1;bend 0 0+0) -> UnsupportedOperation
        cause -> NoSuchElement NoSuchElement
        sleeper(3)
        plot(0,0,0)
        chain(0,e,1)
        text(bend 0 0-0) -> UnsupportedOperation
        cause -> NoSuchElement NoSuchElement
        text(bend 0 0+1) -> UnsupportedOperation
        cause -> 6 1
        """);
    Script.run("26: a refused text pushes no change out", """
        dusk(1)
        dusk(1)
        dusk(1)
        dusk(1)
        dusk(1)
        dusk(1)
        dusk(1)
        dusk(1)
        text(dusk 1;drop 0) -> UnsupportedOperation
        sleeper(0) -> IllegalArgument
        undo() -> 7
        undo() -> 6
        undo() -> 5
        undo() -> 4
        undo() -> 3
        undo() -> 2
        undo() -> 1
        undo() -> 0
        account(8) -> 0
        """);
  }

  private static void malformedTexts() {
    Script.run("26, 27: where a text is malformed", """
        errorPosition() -> NoSuchElement
        text() -> IllegalArgument
        errorPosition() -> 0
        text(x) -> IllegalArgument
        errorPosition() -> 0
        text(p) -> IllegalArgument
        errorPosition() -> 1
        text(px) -> IllegalArgument
        errorPosition() -> 1
        text(plat) -> IllegalArgument
        errorPosition() -> 2
        text(dr0p 0) -> IllegalArgument
        errorPosition() -> 2
        text(deap 0 0) -> IllegalArgument
        errorPosition() -> 2
        text(dusk) -> IllegalArgument
        errorPosition() -> 4
        text(dusk ) -> IllegalArgument
        errorPosition() -> 5
        text(dusk x) -> IllegalArgument
        errorPosition() -> 5
        text(dusk 123) -> IllegalArgument
        errorPosition() -> 7
        text(dusk 1 ) -> IllegalArgument
        errorPosition() -> 6
        text(dusk 1;) -> IllegalArgument
        errorPosition() -> 7
        text(dusk 1;;) -> IllegalArgument
        errorPosition() -> 7
        text(dusk 1; dusk 1) -> IllegalArgument
        errorPosition() -> 7
        text( dusk 1) -> IllegalArgument
        errorPosition() -> 0
        text(Dusk 1) -> IllegalArgument
        errorPosition() -> 0
        text(new 10) -> IllegalArgument
        errorPosition() -> 5
        text(new  1) -> IllegalArgument
        errorPosition() -> 4
        text(newt 1) -> IllegalArgument
        errorPosition() -> 3
        text(peg 123 1 2) -> IllegalArgument
        errorPosition() -> 6
        text(peg 12 10 2) -> IllegalArgument
        errorPosition() -> 8
        text(peg 12 1) -> IllegalArgument
        errorPosition() -> 8
        text(plot 00 1 1) -> IllegalArgument
        errorPosition() -> 6
        text(plot 0 1 11) -> IllegalArgument
        errorPosition() -> 10
        text(lay 0 e1) -> IllegalArgument
        errorPosition() -> 5
        text(lay 0e11) -> IllegalArgument
        errorPosition() -> 7
        text(lay 0x1) -> IllegalArgument
        errorPosition() -> 5
        text(bend 0 1*1) -> IllegalArgument
        errorPosition() -> 8
        text(bend 0 11+) -> IllegalArgument
        errorPosition() -> 10
        text(bend 0 1+-1) -> IllegalArgument
        errorPosition() -> 9
        text(bend 0 1+12) -> IllegalArgument
        errorPosition() -> 10
        text(deep 0) -> IllegalArgument
        errorPosition() -> 6
        text(new 5;drop x) -> IllegalArgument
        errorPosition() -> 11
        account(0) -> 0
        account(10) -> 0
        refused -> NoSuchElement NoSuchElement
        text(new 5) -> 1
        errorPosition() -> 11
        undo()
        errorPosition() -> 11
        """);
  }

  private static void refusals() {
    Script.run("28: refusal", """
        refused -> NoSuchElement NoSuchElement
        cause -> NoSuchElement NoSuchElement
        sleeper(3)
        drop(0) -> UnsupportedOperation
        refused -> 4 0
        cause -> NoSuchElement NoSuchElement
        text(drop 0) -> UnsupportedOperation
        refused -> 11 0
        cause -> 4 0
        deep(0,4)
        undo()
        refused -> 11 0
        cause -> 4 0
        deep(0,3) -> UnsupportedOperation
        refused -> 10 3
        cause -> NoSuchElement NoSuchElement
        save()
        restore()
        refused -> 10 3
        """);
  }

  private static void rows() {
    Script.run("29, 31: show, written", """
        written(0) -> NoSuchElement
        show(-1) -> IndexOutOfBounds
        show(8) -> IndexOutOfBounds
        line -> empty
        show(7) -> 12
        line -> ............
        written(11) -> .
        written(12) -> NoSuchElement
        written(-1) -> NoSuchElement
        sleeper(2)
        sleeper(3)
        plot(0,1,0)
        chain(0,e,4)
        chain(0,s,3)
        chain(0,w,4)
        chain(0,n,3)
        plot(1,4,1)
        chain(1,e,8)
        chain(1,s,1)
        chain(1,w,8)
        chain(1,n,1)
        line -> ............
        show(0) -> 12
        line -> .0000.......
        show(1) -> 12
        line -> .00011111111
        show(12) -> IndexOutOfBounds
        line -> .00011111111
        show(2) -> 12
        line -> .0000.......
        undo()
        show(1)
        line -> .0000.......
        dusk(2)
        show(1)
        line -> ............
        """);
  }

  private static void plotsAsText() {
    Script.run("30, 31: tell, written", """
        tell(0) -> IndexOutOfBounds
        sleeper(2)
        tell(-1) -> IndexOutOfBounds
        tell(1) -> IndexOutOfBounds
        show(0)
        tell(0) -> 0
        line -> empty
        written(0) -> NoSuchElement
        plot(0,10,4)
        tell(0) -> 6
        line -> (10,4)
        drop(0)
        plot(0,3,4)
        chain(0,e,2)
        chain(0,s,1)
        chain(0,w,2)
        tell(0) -> 11
        line -> (3,4)e2s1w2
        chain(0,n,1)
        tell(0) -> 14
        line -> (3,4)e2s1w2n1!
        written(13) -> !
        written(14) -> NoSuchElement
        drop(0)
        line -> (3,4)e2s1w2n1!
        tell(0) -> 0
        """);
    Script.run("30: the longest", """
        sleeper(2)
        plot(0,12,8)
        chain(0,w,1)
        chain(0,w,1)
        chain(0,w,1)
        chain(0,w,1)
        chain(0,w,1)
        chain(0,w,1)
        chain(0,w,1)
        chain(0,n,1)
        chain(0,e,1)
        chain(0,e,1)
        chain(0,e,1)
        chain(0,e,1)
        chain(0,e,1)
        chain(0,e,1)
        chain(0,e,1)
        chain(0,s,1) -> 0
        tell(0) -> 39
        line -> (12,8)w1w1w1w1w1w1w1n1e1e1e1e1e1e1e1s1!
        """);
  }

  private static void accounts() {
    Script.run("32: account", """
        account(-1) -> IllegalArgument
        account(12) -> IllegalArgument
        sleeper(2)
        sleeper(3)
        sleeper(4)
        peg(0,0,2)
        peg(0,1,3)
        plot(0,1,1)
        chain(0,e,2)
        chain(0,s,2)
        chain(0,w,2)
        chain(0,n,2)
        plot(2,1,0)
        chain(2,e,5)
        dusk(2)
        type(x)
        account(0) -> 3
        account(1) -> 1
        account(2) -> 2
        account(3) -> 1
        account(4) -> 2
        account(5) -> 1
        account(6) -> 5
        account(7) -> 0
        account(8) -> 2
        account(9) -> 0
        account(10) -> 1
        account(11) -> 8
        deep(0,1)
        account(1) -> 0
        account(7) -> 4
        bend(0,3,1) -> 6
        account(9) -> 1
        bend(0,2,1) -> 8
        account(9) -> 2
        account(6) -> 9
        undo()
        account(9) -> 1
        drop(0)
        account(9) -> 1
        account(4) -> 1
        account(5) -> 0
        """);
  }

  private static void means() {
    Script.run("33: meanDepth", """
        meanDepth() -> Arithmetic
        sleeper(5)
        meanDepth() -> 5.0
        sleeper(4)
        meanDepth() -> 4.5
        sleeper(1)
        meanDepth() -> 3.3333333333333335
        dusk(4)
        meanDepth() -> 0.3333333333333333
        dusk(1)
        meanDepth() -> 0.0
        """);
  }

  private static void shares() {
    Script.run("34: ownedShare", """
        ownedShare() -> 0.0
        sleeper(5)
        plot(0,0,0)
        chain(0,e,1)
        chain(0,s,1)
        chain(0,w,1)
        ownedShare() -> 0.0
        chain(0,n,1)
        ownedShare() -> 0.010416667
        bend(0,1,6) -> 7
        ownedShare() -> 0.072916664
        dusk(5)
        ownedShare() -> 0.0
        """);
  }
}
