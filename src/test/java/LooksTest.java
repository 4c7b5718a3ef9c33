/** Promises 22 to 33: looks at prices, means, smoothing, medians and creases. */
final class LooksTest {
  private static final Check check = new Check("LooksTest");

  public static void main(String[] args) {
    daysAndWindows();
    priceOf();
    means();
    weightedMean();
    smoothing();
    median();
    creases();
    wrongDays();
    nothingIsChanged();
    check.finish();
  }

  /** Promises 22, 24 and 25. */
  private static void daysAndWindows() {
    PriceIrons x = new PriceIrons();
    check.due("days", x.days(), 0);
    x.addPrice(5);
    check.due("days", x.days(), 1);
    check.due("60 days", Check.even(60, 1).days(), 60);
    x.setWindows(2, 9);
    check.due("shortWindow", x.shortWindow(), 2);
    check.due("longWindow", x.longWindow(), 9);
    Check.work(x, "w9:10");
    check.due("shortWindow by a text", x.shortWindow(), 9);
    check.due("longWindow by a text", x.longWindow(), 10);
  }

  /** Promise 23. */
  private static void priceOf() {
    PriceIrons x = Check.iron(1, 9999, 5);
    check.due("0", x.priceOf(0), 1);
    check.due("1", x.priceOf(1), 9999);
    check.due("2", x.priceOf(2), 5);
    check.outOfBounds(x, "3", () -> x.priceOf(3));
    check.outOfBounds(x, "-1", () -> x.priceOf(-1));
  }

  private static void mean(PriceIrons x, int day, int window, int due) {
    check.due("mean " + day + ", " + window, x.mean(day, window), due);
    check.due("meanBySums " + day + ", " + window, x.meanBySums(day, window), due);
  }

  /** Promises 26 and 27. */
  private static void means() {
    PriceIrons x = Check.iron(10, 20, 40, 1);
    mean(x, 0, 1, 10000);
    mean(x, 0, 20, 10000);
    mean(x, 1, 2, 15000);
    mean(x, 2, 2, 30000);
    mean(x, 2, 3, 23333);
    mean(x, 3, 1, 1000);
    mean(x, 3, 3, 20333);
    mean(x, 3, 4, 17750);
    mean(x, 3, 20, 17750);
    PriceIrons full = Check.even(60, 9999);
    full.setPrice(39, 1);
    mean(full, 59, 20, 9999000);
    mean(full, 58, 20, 9499100);
    int[] wrong = {0, 21, -1, Integer.MIN_VALUE, Integer.MAX_VALUE};
    for (int window : wrong) {
      check.illegalArgument(x, "mean 0, " + window, () -> x.mean(0, window));
      check.illegalArgument(x, "meanBySums 0, " + window, () -> x.meanBySums(0, window));
      check.outOfBounds(x, "mean 4, " + window, () -> x.mean(4, window));
      check.outOfBounds(x, "meanBySums 4, " + window, () -> x.meanBySums(4, window));
    }
  }

  /** Promise 28. */
  private static void weightedMean() {
    PriceIrons x = Check.iron(10, 20, 40, 1);
    check.due("0", x.weightedMean(0), 10000);
    check.due("1: 50 / 3", x.weightedMean(1), 16666);
    check.due("2: 170 / 6", x.weightedMean(2), 28333);
    check.due("3: 174 / 10", x.weightedMean(3), 17400);
    x.setWindows(1, 2);
    check.due("3 of two days: 42 / 3", x.weightedMean(3), 14000);
    PriceIrons full = Check.even(60, 9999);
    full.setWindows(10, 20);
    check.due("the greatest", full.weightedMean(59), 9999000);
  }

  private static void smooth(PriceIrons x, int day, int due) {
    check.due("smoothed " + day, x.smoothed(day), due);
    check.due("smoothedBack " + day, x.smoothedBack(day), due);
  }

  /** Promises 29 and 30. */
  private static void smoothing() {
    PriceIrons x = Check.iron(10, 20, 40, 1, 1);
    smooth(x, 0, 10000);
    smooth(x, 1, 14000);
    smooth(x, 2, 24400);
    smooth(x, 3, 15040);
    smooth(x, 4, 9424);
    x.addPrice(1);
    smooth(x, 5, 6054);
    x.addPrice(1);
    smooth(x, 6, 4032);
    x.setMemory(0);
    smooth(x, 3, 1000);
    x.setMemory(9);
    smooth(x, 1, 11000);
    smooth(x, 2, 13900);
    PriceIrons full = Check.even(60, 9999);
    smooth(full, 59, 9999000);
    full.setMemory(9);
    full.setPrice(0, 1);
    smooth(full, 1, 1000800);
    check.due("60 days deep", full.smoothedBack(59), full.smoothed(59));
  }

  /** Promise 31. */
  private static void median() {
    PriceIrons x = Check.iron(10, 20, 40, 1, 1, 30);
    check.due("one", x.median(0), 10);
    check.due("the lesser of two", x.median(1), 10);
    check.due("of three", x.median(2), 20);
    check.due("20, 40, 1", x.median(3), 20);
    check.due("40, 1, 1", x.median(4), 1);
    check.due("1, 1, 30", x.median(5), 1);
    x.setWindows(4, 5);
    check.due("20, 40, 1, 1", x.median(4), 1);
    check.due("10, 20, 40, 1", x.median(3), 10);
    x.setWindows(10, 11);
    check.due("all six", x.median(5), 10);
    x.setWindows(1, 2);
    check.due("the day by itself", x.median(2), 40);
  }

  /** Promises 32 and 33. */
  private static void creases() {
    PriceIrons x = new PriceIrons();
    check.due("without days", x.creases(), 0);
    PriceIrons y = Check.iron(200, 200, 301, 200, 99, 300, 300, 100);
    check.due("0", y.isCrease(0), false);
    check.due("101 above", y.isCrease(2), true);
    check.due("3", y.isCrease(3), false);
    check.due("101 below", y.isCrease(4), true);
    check.due("100 above", y.isCrease(5), false);
    check.due("6", y.isCrease(6), false);
    check.due("7", y.isCrease(7), true);
    check.due("creases", y.creases(), 3);
    y.setLimit(101);
    check.due("at the limit above", y.isCrease(2), false);
    check.due("at the limit below", y.isCrease(4), false);
    check.due("99, 200, 300: 200", y.median(5), 200);
    check.due("creases then", y.creases(), 1);
    y.setLimit(99);
    check.due("100 above at the limit 99", y.isCrease(5), true);
    check.due("creases at the limit 99", y.creases(), 4);
    y.setLimit(9999);
    check.due("none", y.creases(), 0);
  }

  private static void wrongDays() {
    PriceIrons x = Check.iron(10, 20, 40);
    int[] wrong = {-1, 3, 59, 60, Integer.MIN_VALUE, Integer.MAX_VALUE};
    for (int day : wrong) {
      check.outOfBounds(x, "priceOf " + day, () -> x.priceOf(day));
      check.outOfBounds(x, "mean " + day, () -> x.mean(day, 1));
      check.outOfBounds(x, "meanBySums " + day, () -> x.meanBySums(day, 1));
      check.outOfBounds(x, "weightedMean " + day, () -> x.weightedMean(day));
      check.outOfBounds(x, "smoothed " + day, () -> x.smoothed(day));
      check.outOfBounds(x, "smoothedBack " + day, () -> x.smoothedBack(day));
      check.outOfBounds(x, "median " + day, () -> x.median(day));
      check.outOfBounds(x, "isCrease " + day, () -> x.isCrease(day) ? 1 : 0);
    }
  }

  private static void nothingIsChanged() {
    PriceIrons x = Check.iron(10, 200, 40, 1, 500);
    long before = x.digest();
    x.days();
    x.priceOf(1);
    x.mean(4, 3);
    x.meanBySums(4, 3);
    x.weightedMean(4);
    x.smoothed(4);
    x.smoothedBack(4);
    x.median(4);
    x.isCrease(4);
    x.creases();
    check.due("digest", x.digest(), before);
  }
}
