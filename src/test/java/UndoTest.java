/** Promises 18 to 21: undo, the snapshot, and how many states are saved. */
final class UndoTest {
  private static final Check check = new Check("UndoTest");

  public static void main(String[] args) {
    undo();
    undoOfEverything();
    keep();
    restore();
    savedStates();
    check.finish();
  }

  /** Promise 18. */
  private static void undo() {
    PriceIrons x = new PriceIrons();
    check.illegalState(x, "nothing saved", () -> x.undo());
    for (int price = 1; price <= 9; price++) {
      x.addPrice(price);
    }
    for (int left = 5; left >= 0; left--) {
      check.due("undo", x.undo(), left);
      check.due("days", x.days(), left + 3);
    }
    check.illegalState(x, "only six are saved", () -> x.undo());
    x.addPrice(77);
    check.due("saved anew", x.undo(), 0);
    check.due("days", x.days(), 3);
    for (int round = 0; round < 20; round++) {
      x.addPrice(100 + round);
      x.addPrice(200 + round);
      x.undo();
      check.due("price", x.priceOf(x.days() - 1), 100 + round);
    }
    x.undo();
    check.due("the round before", x.priceOf(x.days() - 1), 118);
  }

  private static void undoOfEverything() {
    PriceIrons x = Check.iron(5, 800, 5);
    long first = x.digest();
    x.setPrice(0, 6);
    x.undo();
    x.setWindows(2, 9);
    x.undo();
    x.setSeason(3);
    x.undo();
    x.setLimit(2);
    x.undo();
    x.setMemory(1);
    x.undo();
    x.press(1);
    x.undo();
    x.pressAll();
    x.undo();
    x.dropOldest(1);
    x.undo();
    Check.work(x, "x9");
    x.undo();
    check.due("all as before", x.digest(), first);
    check.due("memory", x.setMemory(6), 6);
    check.due("limit", x.setLimit(100), 100);
    x.keep();
    x.setPrice(0, 7);
    x.keep();
    x.undo();
    check.due("undo", x.priceOf(0), 5);
    x.restore();
    check.due("the snapshot is not undone", x.priceOf(0), 7);
  }

  /** Promise 19. */
  private static void keep() {
    PriceIrons x = new PriceIrons();
    check.due("no days", x.keep(), 0);
    x.addPrice(5);
    x.addPrice(6);
    check.due("two days", x.keep(), 2);
    check.due("not undoable", x.savedStates(), 2);
    x.setPrice(0, 9);
    x.restore();
    check.due("in place of the one before", x.days(), 2);
    check.due("price", x.priceOf(0), 5);
  }

  /** Promise 20. */
  private static void restore() {
    PriceIrons x = new PriceIrons();
    check.illegalState(x, "no snapshot", () -> x.restore());
    Check.work(x, "p7,8;m2;l3;w4:8;x0");
    x.setSeason(6);
    x.keep();
    x.dropOldest(1);
    x.setMemory(9);
    x.setLimit(9);
    x.setWindows(1, 3);
    x.setSeason(2);
    Check.work(x, "a");
    Check.type(x, "p12");
    check.due("days then", x.restore(), 2);
    check.due("price 0", x.priceOf(0), 7);
    check.due("short", x.shortWindow(), 4);
    check.due("long", x.longWindow(), 8);
    check.due("season", x.season(), 6);
    check.due("stop", x.stoppedPart(), 4);
    check.due("reason", x.whyStopped(), 3);
    check.due("saved", x.savedStates(), 6);
    check.due("the buffer is not restored", x.clearBuffer(), 3);
    x.undo();
    check.due("undone", x.days(), 1);
    check.due("undone stop", x.hasStopped(), false);
    check.due("the snapshot stays", x.restore(), 2);
    check.due("memory", x.setMemory(5), 2);
    check.due("limit", x.setLimit(5), 3);
    x.setPrice(0, 1);
    check.due("again", x.restore(), 2);
    check.due("and again price 0", x.priceOf(0), 7);
  }

  /** Promise 21. */
  private static void savedStates() {
    PriceIrons x = new PriceIrons();
    check.due("none", x.savedStates(), 0);
    for (int price = 1; price <= 8; price++) {
      x.addPrice(price);
      check.due("saved", x.savedStates(), Math.min(price, 6));
    }
    x.undo();
    check.due("undo drops one", x.savedStates(), 5);
    check.illegalArgument(x, "a call that throws", () -> x.addPrice(0));
    check.due("saves none", x.savedStates(), 5);
    x.keep();
    check.due("keep saves none", x.savedStates(), 5);
    x.restore();
    check.due("restore saves one", x.savedStates(), 6);
  }
}
