/** Promises 1 to 6: a new object, and the calls that change prices. */
final class PricesTest {
  private static final Check check = new Check("PricesTest");

  public static void main(String[] args) {
    newObject();
    addPrice();
    setPrice();
    dropOldest();
    press();
    pressAll();
    check.finish();
  }

  /** Promise 1. */
  private static void newObject() {
    PriceIrons x = new PriceIrons();
    check.due("days", x.days(), 0);
    check.due("shortWindow", x.shortWindow(), 3);
    check.due("longWindow", x.longWindow(), 7);
    check.due("season", x.season(), 5);
    check.due("savedStates", x.savedStates(), 0);
    check.due("hasStopped", x.hasStopped(), false);
    check.illegalState(x, "restore without a snapshot", () -> x.restore());
    check.due("clearBuffer", x.clearBuffer(), 0);
    check.due("first memory", x.setMemory(0), 6);
    check.due("first limit", x.setLimit(0), 100);
    PriceIrons other = new PriceIrons();
    x.addPrice(5);
    check.due("another object", other.days(), 0);
  }

  /** Promise 2. */
  private static void addPrice() {
    PriceIrons x = new PriceIrons();
    check.due("first", x.addPrice(1), 0);
    check.due("second", x.addPrice(9999), 1);
    check.due("price 0", x.priceOf(0), 1);
    check.due("price 1", x.priceOf(1), 9999);
    check.due("saved", x.savedStates(), 2);
    int[] wrong = {0, 10000, -1, Integer.MIN_VALUE, Integer.MAX_VALUE};
    for (int price : wrong) {
      check.illegalArgument(x, "addPrice(" + price + ")", () -> x.addPrice(price));
    }
    for (int day = 2; day < 60; day++) {
      check.due("addPrice", x.addPrice(day), day);
    }
    check.due("days", x.days(), 60);
    check.illegalState(x, "the 61st price", () -> x.addPrice(5));
    check.illegalArgument(x, "a wrong 61st price", () -> x.addPrice(0));
    check.due("undo", x.undo(), 5);
    check.due("days less one", x.days(), 59);
    check.due("addPrice again", x.addPrice(7), 59);
  }

  /** Promise 3. */
  private static void setPrice() {
    PriceIrons x = Check.iron(10, 20, 30);
    check.due("before", x.setPrice(1, 25), 20);
    check.due("changed", x.priceOf(1), 25);
    check.due("not changed 0", x.priceOf(0), 10);
    check.due("not changed 2", x.priceOf(2), 30);
    check.due("saved", x.savedStates(), 4);
    check.due("the same price", x.setPrice(1, 25), 25);
    check.due("saved too", x.savedStates(), 5);
    x.undo();
    x.undo();
    check.due("undone", x.priceOf(1), 20);
    check.due("least", x.setPrice(0, 1), 10);
    check.due("most", x.setPrice(2, 9999), 30);
    check.outOfBounds(x, "day 3", () -> x.setPrice(3, 5));
    check.outOfBounds(x, "day -1", () -> x.setPrice(-1, 5));
    check.outOfBounds(x, "day and price wrong", () -> x.setPrice(3, 0));
    check.illegalArgument(x, "price 0", () -> x.setPrice(0, 0));
    check.illegalArgument(x, "price 10000", () -> x.setPrice(2, 10000));
    PriceIrons y = new PriceIrons();
    check.outOfBounds(y, "no day", () -> y.setPrice(0, 5));
  }

  /** Promise 4. */
  private static void dropOldest() {
    PriceIrons x = Check.iron(10, 20, 30, 40, 50);
    check.due("left", x.dropOldest(2), 3);
    check.due("day 0", x.priceOf(0), 30);
    check.due("day 2", x.priceOf(2), 50);
    check.outOfBounds(x, "day 3", () -> x.priceOf(3));
    check.illegalState(x, "fewer", () -> x.dropOldest(4));
    check.illegalArgument(x, "0", () -> x.dropOldest(0));
    check.illegalArgument(x, "61", () -> x.dropOldest(61));
    check.illegalArgument(x, "-1", () -> x.dropOldest(-1));
    check.due("all", x.dropOldest(3), 0);
    check.illegalState(x, "none is left", () -> x.dropOldest(1));
    check.illegalState(x, "60 of none", () -> x.dropOldest(60));
    check.due("saved", x.savedStates(), 6);
    x.undo();
    check.due("undone", x.priceOf(2), 50);
    x.undo();
    check.due("undone twice", x.priceOf(0), 10);
    PriceIrons full = Check.even(60, 9);
    check.due("60 of 60", full.dropOldest(60), 0);
    check.due("from 0 again", full.addPrice(3), 0);
    check.due("its price", full.priceOf(0), 3);
    check.due("its high", full.high(0), 3);
  }

  /** Promise 5. */
  private static void press() {
    PriceIrons x = Check.iron(100, 100, 201, 100);
    check.illegalState(x, "no crease", () -> x.press(1));
    check.outOfBounds(x, "day 4", () -> x.press(4));
    check.outOfBounds(x, "day -1", () -> x.press(-1));
    check.due("saved", x.savedStates(), 4);
    check.due("press", x.press(2), 100);
    check.due("pressed", x.priceOf(2), 100);
    check.due("saved then", x.savedStates(), 5);
    check.illegalState(x, "pressed already", () -> x.press(2));
    x.undo();
    check.due("undone", x.priceOf(2), 201);
    x.setPrice(2, 200);
    check.illegalState(x, "100 above is not more", () -> x.press(2));
    PriceIrons below = Check.iron(300, 300, 199);
    check.due("below", below.press(2), 300);
  }

  /** Promise 6: each day is looked at by the prices as they are then. */
  private static void pressAll() {
    PriceIrons x = new PriceIrons();
    check.due("nothing", x.pressAll(), 0);
    check.due("saved all the same", x.savedStates(), 1);
    PriceIrons y = Check.iron(100, 500, 900, 900);
    // Day 1: median of 100, 500 is 100, so 100. Day 2: of 100, 100, 900, so 100.
    // Day 3: of 100, 100, 900, so 100; by the prices before it would have been no crease.
    check.due("median before", y.median(3), 900);
    check.due("pressed", y.pressAll(), 3);
    for (int day = 0; day < 4; day++) {
      check.due("all even", y.priceOf(day), 100);
    }
    check.due("again", y.pressAll(), 0);
    check.due("saved", y.savedStates(), 6);
    y.undo();
    y.undo();
    check.due("undone 1", y.priceOf(1), 500);
    check.due("undone 3", y.priceOf(3), 900);
  }
}
