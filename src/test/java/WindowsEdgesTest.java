/** "Terms": each boundary that it names of prices, windows, means, medians and creases. */
final class WindowsEdgesTest {
  private static final Check check = new Check("WindowsEdgesTest");

  public static void main(String[] args) {
    mostPrices();
    daysFromZero();
    leastAndGreatestPrice();
    shortWindow();
    longWindow();
    shorterLessThanLonger();
    atFirst();
    thisDayAndThoseAhead();
    fewerDaysInAMean();
    fewerDaysInAWeightedMean();
    fewerDaysInAMedian();
    fewerDaysInAHigh();
    oldestCountsOnce();
    roundedDown();
    smoothingAtDayZero();
    smoothingRoundsEachDay();
    leastAndGreatestMemory();
    recursionOfSixtyDays();
    lesserOfTwoInTheMiddle();
    moreThanTheLimit();
    leastAndGreatestLimit();
    dayZeroIsNoCrease();
    pressedByPricesAsTheyAreThen();
    daysBehindTheLastOne();
    check.finish();
  }

  private static void mostPrices() {
    check.sentence("There are at most 60 prices");
    PriceIrons x = Check.even(59, 5);
    check.due("the 60th", x.addPrice(7), 59);
    check.illegalState(x, "the 61st", () -> x.addPrice(8));
    check.due("days", x.days(), 60);
    check.due("the last price stays", x.priceOf(59), 7);
    check.due("one is dropped", x.dropOldest(1), 59);
    check.due("there is room again", x.addPrice(8), 59);
    PriceIrons y = Check.even(59, 5);
    check.due("the 60th by a text", Check.work(y, "p6"), 1);
    check.due("the 61st by a text", Check.work(y, "p7"), 0);
    check.due("days by texts", y.days(), 60);
    check.due("the last price by texts", y.priceOf(59), 6);
  }

  private static void daysFromZero() {
    check.sentence("one for each day, the days numbered from 0");
    PriceIrons x = new PriceIrons();
    check.due("the first", x.addPrice(11), 0);
    check.due("the second", x.addPrice(22), 1);
    check.due("day 0", x.priceOf(0), 11);
    check.due("day 1", x.priceOf(1), 22);
    check.outOfBounds(x, "day -1", () -> x.priceOf(-1));
    check.outOfBounds(x, "day 2", () -> x.priceOf(2));
    x.dropOldest(1);
    check.due("day 0 behind a drop", x.priceOf(0), 22);
    check.outOfBounds(x, "day 1 behind a drop", () -> x.priceOf(1));
  }

  private static void leastAndGreatestPrice() {
    check.sentence("a price is 1 to 9999");
    PriceIrons x = Check.iron(1, 9999);
    check.due("least", x.priceOf(0), 1);
    check.due("greatest", x.priceOf(1), 9999);
    check.illegalArgument(x, "addPrice 0", () -> x.addPrice(0));
    check.illegalArgument(x, "addPrice 10000", () -> x.addPrice(10000));
    check.due("set to the greatest", x.setPrice(0, 9999), 1);
    check.due("set to the least", x.setPrice(1, 1), 9999);
    check.illegalArgument(x, "setPrice 0", () -> x.setPrice(0, 0));
    check.illegalArgument(x, "setPrice 10000", () -> x.setPrice(0, 10000));
  }

  private static void shortWindow() {
    check.sentence("The short window is 1 to 10 days");
    PriceIrons x = Check.rising(30);
    x.setWindows(1, 20);
    check.due("1", x.shortWindow(), 1);
    check.due("the median of 1 day", x.median(29), 300);
    check.due("the mean of 1 day", x.forecast(0), 300000);
    x.setWindows(10, 20);
    check.due("10", x.shortWindow(), 10);
    check.due("the median of 10 days", x.median(29), 250);
    check.due("the mean of 10 days", x.forecast(0), 255000);
    check.illegalArgument(x, "0", () -> x.setWindows(0, 20));
    check.illegalArgument(x, "11", () -> x.setWindows(11, 20));
  }

  private static void longWindow() {
    check.sentence("the long one 2 to 20");
    PriceIrons x = Check.falling(30);
    x.setWindows(1, 2);
    check.due("2", x.longWindow(), 2);
    check.due("the high of 2 days", x.high(29), 20);
    check.due("the mean of 2 days", x.forecast(1), 15000);
    x.setWindows(1, 20);
    check.due("20", x.longWindow(), 20);
    check.due("the high of 20 days", x.high(29), 200);
    check.due("the mean of 20 days", x.forecast(1), 105000);
    check.illegalArgument(x, "1", () -> x.setWindows(1, 1));
    check.illegalArgument(x, "21", () -> x.setWindows(1, 21));
  }

  /** Each pair, by a call and by a text: a text stops at a pair that does not go. */
  private static void shorterLessThanLonger() {
    check.sentence("the short one is less than the long one");
    for (int shorter = 1; shorter <= 10; shorter++) {
      for (int longer = 2; longer <= 20; longer++) {
        int one = shorter;
        int other = longer;
        boolean goes = shorter < longer;
        PriceIrons x = new PriceIrons();
        Class<?> thrown = Check.thrownBy(x, y -> y.setWindows(one, other));
        String pair = shorter + ", " + longer;
        check.due(pair, thrown == (goes ? null : IllegalArgumentException.class), true);
        check.due(pair + ": short", x.shortWindow(), goes ? shorter : 3);
        check.due(pair + ": long", x.longWindow(), goes ? longer : 7);
        PriceIrons byText = new PriceIrons();
        check.due(pair + " by a text", Check.work(byText, "w" + shorter + ":" + longer),
            goes ? 1 : 0);
        check.due(pair + ": short by a text", byText.shortWindow(), goes ? shorter : 3);
        check.due(pair + ": long by a text", byText.longWindow(), goes ? longer : 7);
      }
    }
  }

  private static void atFirst() {
    check.sentence("at first 3, at first 7, at first 6, at first 100, at first 5");
    PriceIrons x = new PriceIrons();
    check.due("short window", x.shortWindow(), 3);
    check.due("long window", x.longWindow(), 7);
    check.due("memory", x.setMemory(0), 6);
    check.due("limit", x.setLimit(0), 100);
    check.due("season", x.season(), 5);
  }

  /** A change of one price is seen from day 12 just if it is in the window. */
  private static void thisDayAndThoseAhead() {
    check.sentence("The days of a window at a day are this day and those ahead of it");
    for (int changed = 0; changed < 16; changed++) {
      PriceIrons x = Check.even(16, 100);
      x.setWindows(2, 6);
      x.setPrice(changed, 700);
      for (int window = 1; window <= 12; window++) {
        int due = changed <= 12 && changed > 12 - window ? 100000 + 600000 / window : 100000;
        check.due("mean of " + window + ", price " + changed, x.mean(12, window), due);
        check.due("by sums, of " + window + ", price " + changed, x.meanBySums(12, window), due);
      }
      boolean inLong = changed >= 7 && changed <= 12;
      check.due("weighted mean, price " + changed, x.weightedMean(12),
          inLong ? 100000 + 600000L * (changed - 6) / 21 : 100000);
      check.due("high, price " + changed, x.high(12), inLong ? 700 : 100);
      check.due("by candidates, price " + changed, x.highByCandidates(12), inLong ? 700 : 100);
      x.setPrice(changed, 1);
      check.due("median, price " + changed, x.median(12), changed == 11 || changed == 12 ? 1 : 100);
    }
  }

  private static void fewerDaysInAMean() {
    check.sentence("or fewer, if there are not so many: a mean");
    for (int window = 1; window <= 20; window++) {
      PriceIrons x = Check.rising(22);
      for (int day = 0; day < 22; day++) {
        int days = Math.min(window, day + 1);
        // The mean of 10 * (day + 1) and of the lesser ones stands in the middle of them.
        int due = 5000 * (2 * (day + 1) - days + 1);
        check.due("day " + day + ", window " + window, x.mean(day, window), due);
        check.due("by sums, day " + day + ", window " + window, x.meanBySums(day, window), due);
      }
    }
  }

  private static void fewerDaysInAWeightedMean() {
    check.sentence("or fewer, if there are not so many: a weighted mean");
    for (int window = 2; window <= 20; window++) {
      PriceIrons x = Check.rising(22);
      x.setWindows(1, window);
      for (int day = 0; day < 22; day++) {
        int days = Math.min(window, day + 1);
        long sum = 0;
        long times = 0;
        for (int time = 1; time <= days; time++) {
          sum += time * 10L * (day + 1 - days + time);
          times += time;
        }
        check.due("day " + day + ", window " + window, x.weightedMean(day), 1000 * sum / times);
      }
    }
  }

  private static void fewerDaysInAMedian() {
    check.sentence("or fewer, if there are not so many: a median");
    for (int window = 1; window <= 10; window++) {
      PriceIrons rising = Check.rising(22);
      PriceIrons falling = Check.falling(22);
      rising.setWindows(window, 20);
      falling.setWindows(window, 20);
      for (int day = 0; day < 22; day++) {
        int days = Math.min(window, day + 1);
        int ahead = (days - 1) / 2;
        check.due("rising, day " + day + ", window " + window, rising.median(day),
            10 * (day + 1 - (days - 1) + ahead));
        check.due("falling, day " + day + ", window " + window, falling.median(day),
            10 * (22 - day + ahead));
      }
    }
  }

  private static void fewerDaysInAHigh() {
    check.sentence("or fewer, if there are not so many: a high");
    for (int window = 2; window <= 20; window++) {
      PriceIrons x = Check.falling(22);
      x.setWindows(1, window);
      for (int day = 0; day < 22; day++) {
        int due = 10 * (22 - Math.max(0, day + 1 - window));
        check.due("day " + day + ", window " + window, x.high(day), due);
        check.due("candidates, day " + day + ", window " + window, x.highByCandidates(day), due);
      }
    }
  }

  private static void oldestCountsOnce() {
    check.sentence("the oldest of them counts once, the next one twice, and so on");
    PriceIrons x = Check.iron(6, 12, 30);
    x.setWindows(1, 3);
    check.due("6 of 1", x.weightedMean(0), 6000);
    check.due("6 + 24 of 3", x.weightedMean(1), 10000);
    check.due("6 + 24 + 90 of 6", x.weightedMean(2), 20000);
    x.addPrice(6);
    check.due("12 + 60 + 18 of 6", x.weightedMean(3), 15000);
  }

  private static void roundedDown() {
    check.sentence("Divisions are rounded down");
    PriceIrons x = Check.iron(1, 1, 2, 2);
    check.due("4 / 3", x.mean(2, 3), 1333);
    check.due("5 / 3", x.mean(3, 3), 1666);
    check.due("4 / 3 by sums", x.meanBySums(2, 3), 1333);
    check.due("5 / 3 by sums", x.meanBySums(3, 3), 1666);
    PriceIrons y = Check.iron(1, 2);
    check.due("weighted, 5 / 3", y.weightedMean(1), 1666);
    PriceIrons z = Check.iron(2, 1);
    check.due("weighted, 4 / 3", z.weightedMean(1), 1333);
  }

  private static void smoothingAtDayZero() {
    check.sentence("at the day 0 it is 1000 times the price");
    for (int memory = 0; memory <= 9; memory++) {
      PriceIrons x = Check.iron(7, 9999);
      x.setMemory(memory);
      check.due("memory " + memory, x.smoothed(0), 7000);
      check.due("back, memory " + memory, x.smoothedBack(0), 7000);
      x.setPrice(0, 9999);
      check.due("greatest, memory " + memory, x.smoothed(0), 9999000);
      check.due("greatest back, memory " + memory, x.smoothedBack(0), 9999000);
      x.dropOldest(1);
      x.setPrice(0, 3);
      check.due("behind a drop, memory " + memory, x.smoothed(0), 3000);
      check.due("behind a drop, back, memory " + memory, x.smoothedBack(0), 3000);
    }
  }

  /** Rounded at the end alone it would be 1065 at day 5. */
  private static void smoothingRoundsEachDay() {
    check.sentence("at each day behind it .. divided by 10");
    PriceIrons x = Check.iron(1, 2, 1, 1, 1, 1);
    x.setMemory(9);
    int[] due = {1000, 1100, 1090, 1081, 1072, 1064};
    for (int day = 0; day < due.length; day++) {
      check.due("day " + day, x.smoothed(day), due[day]);
      check.due("back, day " + day, x.smoothedBack(day), due[day]);
    }
  }

  private static void leastAndGreatestMemory() {
    check.sentence("the memory (0 to 9, at first 6)");
    PriceIrons x = Check.iron(40, 50, 9999);
    check.due("at first 6", x.smoothed(1), 44000);
    for (int memory = 0; memory <= 9; memory++) {
      x.setMemory(memory);
      int due = 4000 * memory + 5000 * (10 - memory);
      check.due("memory " + memory, x.smoothed(1), due);
      check.due("back, memory " + memory, x.smoothedBack(1), due);
    }
    check.illegalArgument(x, "-1", () -> x.setMemory(-1));
    check.illegalArgument(x, "10", () -> x.setMemory(10));
    x.setMemory(0);
    check.due("0 forgets all", x.smoothed(2), 9999000);
    check.due("0 forgets all, back", x.smoothedBack(2), 9999000);
    PriceIrons greatest = Check.even(60, 9999);
    greatest.setMemory(9);
    check.due("greatest", greatest.smoothed(59), 9999000);
    check.due("greatest back", greatest.smoothedBack(59), 9999000);
  }

  /** The price of day 0 is still to be told at day 59, through all days between. */
  private static void recursionOfSixtyDays() {
    check.sentence("Returns the same, told by recursion: at each of 60 days");
    PriceIrons x = Check.even(60, 1);
    x.setPrice(0, 9999);
    x.setMemory(9);
    int due = 9999000;
    for (int day = 0; day < 60; day++) {
      due = day == 0 ? due : (9 * due + 1000) / 10;
      check.due("day " + day, x.smoothedBack(day), due);
      check.due("forwards, day " + day, x.smoothed(day), due);
    }
    check.due("it is more than the other prices tell", due > 20000, true);
  }

  private static void median(int due, int window, int... prices) {
    PriceIrons x = Check.iron(prices);
    x.setWindows(window, 20);
    check.due("of " + java.util.Arrays.toString(prices), x.median(prices.length - 1), due);
  }

  private static void lesserOfTwoInTheMiddle() {
    check.sentence("of two in the middle the lesser one");
    median(10, 2, 10, 20);
    median(10, 2, 20, 10);
    median(20, 2, 20, 20);
    median(5, 4, 5, 5, 9, 9);
    median(5, 4, 9, 5, 9, 5);
    median(9, 4, 5, 9, 9, 9);
    median(5, 4, 9, 5, 5, 5);
    median(20, 4, 40, 10, 30, 20);
    median(30, 6, 60, 50, 40, 30, 20, 10);
    median(5, 10, 10, 9, 8, 7, 6, 5, 4, 3, 2, 1);
    median(1, 10, 1, 1, 1, 1, 1, 9, 9, 9, 9, 9);
    median(9, 10, 1, 1, 1, 1, 9, 9, 9, 9, 9, 9);
    median(9, 9, 1, 1, 1, 1, 9, 9, 9, 9, 9);
    median(20, 3, 30, 20, 10);
    median(20, 10, 30, 10, 40, 20);
  }

  private static void crease(int limit, int middle, int price, boolean due) {
    PriceIrons x = Check.iron(middle, middle, price);
    x.setLimit(limit);
    String told = price + " at " + middle + ", limit " + limit;
    check.due(told, x.isCrease(2), due);
    check.due("creases of " + told, x.creases(), due ? 1 : 0);
    check.due("pressAll of " + told, x.pressAll(), due ? 1 : 0);
    check.due("behind pressAll of " + told, x.priceOf(2), due ? middle : price);
  }

  private static void moreThanTheLimit() {
    check.sentence("A day is a crease, if its price is more than the limit above or below");
    int[] limits = {0, 1, 2, 99, 100, 101, 4000};
    for (int limit : limits) {
      crease(limit, 5000, 5000 + limit, false);
      crease(limit, 5000, 5000 - limit, false);
      crease(limit, 5000, 5001 + limit, true);
      crease(limit, 5000, 4999 - limit, true);
    }
  }

  private static void leastAndGreatestLimit() {
    check.sentence("the limit (0 to 9999, at first 100)");
    crease(0, 1, 1, false);
    crease(0, 1, 2, true);
    crease(0, 2, 1, true);
    crease(9997, 1, 9999, true);
    crease(9997, 9999, 1, true);
    crease(9998, 1, 9999, false);
    crease(9998, 9999, 1, false);
    crease(9999, 1, 9999, false);
    crease(9999, 9999, 1, false);
    PriceIrons x = Check.iron(300, 300, 400, 401);
    check.due("at first: 100 above", x.isCrease(2), false);
    x.setPrice(2, 401);
    check.due("at first: 101 above", x.isCrease(2), true);
    check.illegalArgument(x, "-1", () -> x.setLimit(-1));
    check.illegalArgument(x, "10000", () -> x.setLimit(10000));
  }

  /** Its window has no other day than itself. */
  private static void dayZeroIsNoCrease() {
    check.sentence("its price is more than the limit .. the median at this day: day 0");
    PriceIrons x = Check.iron(9999, 1);
    x.setLimit(0);
    check.due("isCrease", x.isCrease(0), false);
    check.illegalState(x, "press", () -> x.press(0));
    check.due("by a text", Check.work(x, "x0"), 0);
    check.due("why", x.whyStopped(), 3);
    x.pressAll();
    check.due("it stays", x.priceOf(0), 9999);
  }

  /** Ahead of it the days 1 and 3 are creases; pressing day 1 makes one of day 2, not of day 3. */
  private static void pressedByPricesAsTheyAreThen() {
    check.sentence("to look at all days from 0 on .. by the prices as they are then");
    PriceIrons x = Check.iron(100, 300, 300, 100);
    check.due("day 1 ahead of it", x.isCrease(1), true);
    check.due("day 2 ahead of it", x.isCrease(2), false);
    check.due("day 3 ahead of it", x.isCrease(3), true);
    check.due("pressed", x.pressAll(), 2);
    for (int day = 0; day < 4; day++) {
      check.due("day " + day, x.priceOf(day), 100);
    }
    PriceIrons y = Check.iron(100, 300, 300, 100);
    check.due("by a text", Check.work(y, "a"), 1);
    check.due("day 2 by a text", y.priceOf(2), 100);
    PriceIrons full = Check.falling(60);
    full.setLimit(0);
    full.setWindows(2, 3);
    check.due("none of 60, as the lesser of two is the later one", full.pressAll(), 0);
    PriceIrons rising = Check.rising(60);
    rising.setLimit(0);
    rising.setWindows(2, 3);
    check.due("all of 60 but day 0", rising.pressAll(), 59);
    check.due("day 59 comes from day 0", rising.priceOf(59), 10);
  }

  /** Prices that have been dropped or undone are not looked at any more. */
  private static void daysBehindTheLastOne() {
    check.sentence("one for each day: none behind the last one");
    PriceIrons x = Check.iron(9999, 10, 500, 20, 700, 30);
    x.dropOldest(1);
    x.dropOldest(4);
    check.due("days", x.days(), 1);
    check.due("creases", x.creases(), 0);
    check.due("crossings", x.crossings(), 0);
    check.due("pressAll", x.pressAll(), 0);
    check.due("greatestFall", x.greatestFall(), 0);
    check.due("greatestFallByPairs", x.greatestFallByPairs(), 0);
    check.due("longestRise", x.longestRise(), 0);
    check.same("the same as one that never had more", () -> Check.iron(30), () -> {
      PriceIrons y = Check.iron(30, 9999, 10, 500);
      for (int each = 0; each < 3; each++) {
        y.undo();
      }
      return y;
    });
  }
}
