/** Promises 46 to 51: forecasts and their errors, what another price would do, shares, digest. */
final class ForecastsTest {
  private static final Check check = new Check("ForecastsTest");

  public static void main(String[] args) {
    forecast();
    error();
    bestMethod();
    crossingWith();
    smoothShare();
    digestOfNothing();
    digestOfDays();
    digestOfStopAndText();
    check.finish();
  }

  /** Promise 46. */
  private static void forecast() {
    PriceIrons x = Check.iron(10, 20, 40, 1, 2, 3, 4, 5);
    check.due("short mean", x.forecast(0), 4000);
    check.due("long mean", x.forecast(1), 10714);
    check.due("smoothing", x.forecast(2), x.smoothed(7));
    check.due("part 3 of 5: 1", x.forecast(3), 1000);
    x.setSeason(6);
    check.due("part 2 of 6: 40", x.forecast(3), 40000);
    x.setSeason(2);
    check.due("part 0 of 2: 10, 40, 2, 4", x.forecast(3), 14000);
    x.setSeason(3);
    check.due("part 2 of 3: 40, 3, ..", x.forecast(3), (40 + 3) * 1000 / 2);
    PriceIrons y = Check.iron(10, 20, 30);
    check.due("no day of the part: the long mean", y.forecast(3), 20000);
    y.setWindows(1, 2);
    check.due("no day of the part: 25", y.forecast(3), 25000);
    int[] wrong = {-1, 4, Integer.MIN_VALUE, Integer.MAX_VALUE};
    PriceIrons none = new PriceIrons();
    for (int method : wrong) {
      check.illegalArgument(x, "method " + method, () -> x.forecast(method));
      check.illegalArgument(none, "method " + method + " without prices",
          () -> none.forecast(method));
    }
    for (int each = 0; each < 4; each++) {
      int method = each;
      check.illegalState(none, "without prices", () -> none.forecast(method));
      check.due("of one price", Check.iron(9999).forecast(method), 9999000);
    }
    PriceIrons full = Check.even(60, 9999);
    check.due("60 prices", full.forecast(3), 9999000);
  }

  /** Promise 47. */
  private static void error() {
    PriceIrons x = Check.iron(10, 20, 40, 1);
    x.setWindows(1, 2);
    x.setSeason(2);
    check.due("0: 10, 20, 39", x.error(0), 23000);
    check.due("1: 10, 25, 29", x.error(1), 21333);
    check.due("2: 10, 26, 23.4", x.error(2), 19800);
    check.due("3: 10, 30, 19", x.error(3), 19666);
    PriceIrons two = Check.iron(9999, 1);
    PriceIrons one = Check.iron(5);
    PriceIrons none = new PriceIrons();
    for (int each = 0; each < 4; each++) {
      int method = each;
      check.due("two prices", two.error(method), 9998000);
      check.illegalState(one, "one price", () -> one.error(method));
      check.illegalState(none, "no price", () -> none.error(method));
    }
    check.illegalArgument(x, "method 4", () -> x.error(4));
    check.illegalArgument(x, "method -1", () -> x.error(-1));
    check.illegalArgument(one, "method 4 of one price", () -> one.error(4));
  }

  /** Promise 48. */
  private static void bestMethod() {
    PriceIrons x = Check.iron(10, 20, 40, 1);
    x.setWindows(1, 2);
    x.setSeason(2);
    check.due("3", x.bestMethod(), 3);
    x.setMemory(7);
    check.due("2: 10, 27, 20.1", x.error(2), 19033);
    check.due("then 2", x.bestMethod(), 2);
    check.due("of several the lowest", Check.iron(5, 9).bestMethod(), 0);
    PriceIrons rising = Check.iron(1, 2, 3, 4, 5, 6);
    rising.setWindows(1, 6);
    check.due("0", rising.bestMethod(), 0);
    PriceIrons zigzag = Check.iron(10, 20, 10, 20, 10, 20, 10, 20);
    zigzag.setWindows(1, 2);
    check.due("1", zigzag.bestMethod(), 1);
    PriceIrons one = Check.iron(5);
    check.illegalState(one, "one price", () -> one.bestMethod());
    PriceIrons none = new PriceIrons();
    check.illegalState(none, "no price", () -> none.bestMethod());
  }

  /** Promise 49. */
  private static void crossingWith() {
    PriceIrons x = Check.even(8, 100);
    long before = x.digest();
    check.due("upwards", x.crossingWith(101), 1);
    check.due("downwards", x.crossingWith(99), -1);
    check.due("none", x.crossingWith(100), 0);
    check.due("most", x.crossingWith(9999), 1);
    check.due("least", x.crossingWith(1), -1);
    check.due("nothing is changed", x.digest(), before);
    x.addPrice(150);
    check.due("was so at the day ahead", x.crossingWith(200), 0);
    check.due("from above to below", x.crossingWith(1), -1);
    x.setWindows(1, 2);
    check.due("windows count", x.crossingWith(149), -1);
    check.due("one price", Check.iron(5).crossingWith(9), 0);
    PriceIrons two = Check.iron(5, 5);
    two.setWindows(1, 2);
    check.due("two prices", two.crossingWith(9), 1);
    PriceIrons none = new PriceIrons();
    PriceIrons full = Check.even(60, 7);
    check.illegalState(none, "no prices", () -> none.crossingWith(5));
    check.illegalState(full, "60 prices", () -> full.crossingWith(5));
    int[] wrong = {0, 10000, -1, Integer.MIN_VALUE, Integer.MAX_VALUE};
    for (int price : wrong) {
      check.illegalArgument(x, "price " + price, () -> x.crossingWith(price));
      check.illegalArgument(none, "no prices, price " + price, () -> none.crossingWith(price));
      check.illegalArgument(full, "60 prices, price " + price, () -> full.crossingWith(price));
    }
    full.undo();
    check.due("59 prices", full.crossingWith(8), 1);
  }

  private static void share(double answer, double due) {
    check.due("smoothShare " + answer, answer == due, true);
  }

  /** Promise 50. */
  private static void smoothShare() {
    share(new PriceIrons().smoothShare(), 1.0);
    share(Check.iron(5).smoothShare(), 1.0);
    share(Check.iron(5, 500, 5).smoothShare(), 2.0 / 3.0);
    share(Check.iron(5, 500).smoothShare(), 0.5);
    PriceIrons x = Check.iron(5, 500);
    x.setLimit(9999);
    share(x.smoothShare(), 1.0);
  }

  private static long hash(long... values) {
    long hash = 4523;
    for (long value : values) {
      hash = 31 * hash + value;
    }
    return hash;
  }

  /** Promise 51. */
  private static void digestOfNothing() {
    long one = Double.doubleToLongBits(1.0);
    check.due("a new object", new PriceIrons().digest(),
        hash(0, 3, 7, 5, 0, 0, 0, 0, 0, 0, 0, one, 0));
  }

  private static void digestOfDays() {
    PriceIrons x = Check.iron(50);
    long one = Double.doubleToLongBits(1.0);
    check.due("one day", x.digest(), hash(1, 3, 7, 5, 0, 0, 0, 0, 0, 1,
        50, 50000, 50000, 50000, 50000, 50000, 50000, 50, 0, 50, 50, 0, 0, 10000, 50000,
        1000, 50000, 50000, 50000, 50000, 0, one, 0));
    PriceIrons y = Check.iron(10, 300);
    y.setWindows(1, 2);
    y.setMemory(9);
    y.setSeason(3);
    y.setLimit(0);
    check.due("two days", y.digest(), hash(2, 1, 2, 3, 0, 1, 0, 0, 1, 6,
        10, 10000, 10000, 10000, 10000, 10000, 10000, 10, 0, 10, 10, 0, 0, 10000, 155000,
        300, 300000, 300000, 155000, 203333, 39000, 39000, 300, 0, 300, 300, 1, 33, 10000, 155000,
        64, 1935, 300000, 155000, 39000, 155000, 290000, 290000, 290000, 290000, 0, 0, one, 0));
    y.setWindows(2, 3);
    check.due("a crease", y.digest(), hash(2, 2, 3, 3, 1, 0, 0, 0, 1, 6,
        10, 10000, 10000, 10000, 10000, 10000, 10000, 10, 0, 10, 10, 0, 0, 10000, 155000,
        300, 155000, 155000, 155000, 203333, 39000, 39000, 10, 1, 300, 300, 0, 0, 10000, 155000,
        64, 1935, 155000, 155000, 39000, 155000, 290000, 290000, 290000, 290000, 0, 0,
        Double.doubleToLongBits(0.5), 0));
  }

  private static void digestOfStopAndText() {
    PriceIrons x = new PriceIrons();
    Check.work(x, "m5;w9:2");
    Check.type(x, "x~!");
    check.due("stop and text", x.digest(), hash(0, 3, 7, 5, 0, 0, 0, 0, 0, 1, 1, 1, 4,
        Double.doubleToLongBits(1.0), 3, 'x', '~', '!'));
  }
}
