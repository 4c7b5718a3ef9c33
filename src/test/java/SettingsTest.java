/** Promises 7 to 10: the calls that change settings. */
final class SettingsTest {
  private static final Check check = new Check("SettingsTest");

  public static void main(String[] args) {
    setWindows();
    setMemory();
    setLimit();
    setSeason();
    check.finish();
  }

  /** Promise 7. */
  private static void setWindows() {
    PriceIrons x = Check.iron(10, 40, 10, 20);
    check.due("previous", x.setWindows(1, 2), 7);
    check.due("short", x.shortWindow(), 1);
    check.due("long", x.longWindow(), 2);
    check.due("the long mean follows", x.forecast(1), 15000);
    check.due("previous 2", x.setWindows(10, 20), 2);
    check.due("previous 20", x.setWindows(9, 11), 20);
    check.illegalArgument(x, "0, 2", () -> x.setWindows(0, 2));
    check.illegalArgument(x, "11, 12", () -> x.setWindows(11, 12));
    check.illegalArgument(x, "1, 21", () -> x.setWindows(1, 21));
    check.illegalArgument(x, "1, 1", () -> x.setWindows(1, 1));
    check.illegalArgument(x, "0, 1", () -> x.setWindows(0, 1));
    check.illegalArgument(x, "5, 5", () -> x.setWindows(5, 5));
    check.illegalArgument(x, "6, 5", () -> x.setWindows(6, 5));
    check.illegalArgument(x, "-1, 5", () -> x.setWindows(-1, 5));
    check.due("saved", x.savedStates(), 6);
    x.undo();
    check.due("undone short", x.shortWindow(), 10);
    check.due("undone long", x.longWindow(), 20);
    x.setWindows(10, 20);
    check.due("saved, though the same", x.savedStates(), 6);
  }

  /** Promise 8. */
  private static void setMemory() {
    PriceIrons x = Check.iron(10, 20);
    check.due("at first 6", x.smoothed(1), 14000);
    check.due("previous", x.setMemory(9), 6);
    check.due("9", x.smoothed(1), 11000);
    check.due("previous 9", x.setMemory(0), 9);
    check.due("0", x.smoothed(1), 20000);
    check.due("saved", x.savedStates(), 4);
    check.illegalArgument(x, "10", () -> x.setMemory(10));
    check.illegalArgument(x, "-1", () -> x.setMemory(-1));
    check.due("saved then", x.savedStates(), 4);
    x.undo();
    check.due("undone", x.smoothed(1), 11000);
    x.setMemory(9);
    check.due("saved, though the same", x.savedStates(), 4);
  }

  /** Promise 9. */
  private static void setLimit() {
    PriceIrons x = Check.iron(1, 9999);
    check.due("at first 100", x.isCrease(1), true);
    check.due("previous", x.setLimit(9998), 100);
    check.due("9998", x.isCrease(1), false);
    check.due("previous 9998", x.setLimit(9997), 9998);
    check.due("9997", x.isCrease(1), true);
    check.due("previous 9997", x.setLimit(9999), 9997);
    check.due("previous 9999", x.setLimit(0), 9999);
    check.due("saved", x.savedStates(), 6);
    x.setPrice(1, 2);
    check.due("0", x.isCrease(1), true);
    check.illegalArgument(x, "10000", () -> x.setLimit(10000));
    check.illegalArgument(x, "-1", () -> x.setLimit(-1));
    x.undo();
    x.undo();
    check.due("undone", x.setLimit(5), 9999);
    x.setLimit(5);
    check.due("saved, though the same", x.savedStates(), 6);
  }

  /** Promise 10. */
  private static void setSeason() {
    PriceIrons x = Check.iron(10, 20, 30);
    check.due("previous", x.setSeason(2), 5);
    check.due("season", x.season(), 2);
    check.due("previous 2", x.setSeason(7), 2);
    check.due("season 7", x.season(), 7);
    check.illegalArgument(x, "1", () -> x.setSeason(1));
    check.illegalArgument(x, "8", () -> x.setSeason(8));
    check.illegalArgument(x, "0", () -> x.setSeason(0));
    check.illegalArgument(x, "-5", () -> x.setSeason(-5));
    check.due("saved", x.savedStates(), 5);
    x.undo();
    check.due("undone", x.season(), 2);
    x.setSeason(2);
    check.due("saved, though the same", x.savedStates(), 5);
  }
}
