/** Promises 35 to 37: undo, the snapshot. */
public final class UndoTest {
  private UndoTest() {
  }

  public static void main(String[] args) {
    eachChange();
    eightChanges();
    snapshots();
    whatIsNotUndone();
    Script.end("UndoTest");
  }

  private static void eachChange() {
    Script.run("35: each change", """
        undo() -> IllegalState
        sleeper(5)
        peg(5,5,4)
        plot(0,0,0)
        chain(0,e,1)
        chain(0,s,2)
        undo() -> 4
        sleeperOf(0,2) -> 1
        undo() -> 3
        sleeperOf(0,2) -> 0
        undo() -> 2
        sleeperOf(0,1) -> 0
        undo() -> 1
        account(2) -> 0
        undo() -> 0
        account(0) -> 0
        undo() -> IllegalState
        """);
    Script.run("35: each change of what there is", """
        sleeper(5)
        text(plot 0 3 3;lay 0e2;lay 0s2;lay 0w2;lay 0n2) -> 5
        bend(0,0,1)
        undo() -> 2
        area(0) -> 4
        account(9) -> 0
        drop(0) -> 4
        undo() -> 2
        area(0) -> 4
        owner(3,3) -> 0
        deep(0,2) -> 5
        undo() -> 2
        sleeperOf(0,0) -> 5
        dusk(9) -> 1
        undo() -> 2
        sleeperOf(0,0) -> 5
        account(8) -> 0
        undo() -> 1
        sleeperOf(0,1) -> 0
        undo() -> 0
        """);
  }

  private static void eightChanges() {
    Script.run("35: the latest eight", """
        dusk(1)
        dusk(1)
        dusk(1)
        dusk(1)
        dusk(1)
        dusk(1)
        dusk(1)
        dusk(1)
        dusk(1)
        dusk(1)
        account(11) -> 8
        undo() -> 7
        account(8) -> 9
        undo() -> 6
        undo() -> 5
        dusk(4) -> 0
        account(11) -> 6
        undo() -> 5
        account(8) -> 7
        undo() -> 4
        undo() -> 3
        undo() -> 2
        undo() -> 1
        undo() -> 0
        account(8) -> 2
        undo() -> IllegalState
        account(8) -> 2
        """);
  }

  private static void snapshots() {
    Script.run("36, 37: save, restore", """
        restore() -> IllegalState
        save() -> 0
        sleeper(5)
        sleeper(6)
        restore() -> 0
        account(0) -> 0
        account(11) -> 0
        undo() -> IllegalState
        sleeper(5)
        peg(3,3,3)
        text(plot 0 3 5;lay 0e2;lay 0s2;lay 0w2;lay 0n2;bend 0 0+1) -> 6
        dusk(1)
        save() -> 1
        account(11) -> 4
        undo() -> 3
        drop(0)
        sleeper(7)
        peg(5,5,5)
        dusk(8)
        restore() -> 1
        account(11) -> 0
        account(0) -> 1
        account(2) -> 1
        account(8) -> 1
        account(9) -> 1
        sleeperOf(0,0) -> 4
        tell(0)
        line -> (3,5)n1e2s1s2w2n2!
        pegOf(0,3) -> 2
        drop(0)
        restore() -> 1
        area(0) -> 6
        """);
  }

  private static void whatIsNotUndone() {
    Script.run("35, 37: what is not undone", """
        save()
        text(x) -> IllegalArgument
        sleeper(5)
        drop(0) -> UnsupportedOperation
        show(0)
        type(d)
        undo()
        account(10) -> 1
        errorPosition() -> 0
        refused -> 4 0
        line -> ............
        restore()
        account(10) -> 1
        errorPosition() -> 0
        refused -> 4 0
        line -> ............
        type(u) -> 2
        """);
  }
}
