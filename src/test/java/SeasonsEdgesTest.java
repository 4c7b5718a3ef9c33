import java.math.BigInteger;

/** "Terms" and promises 43 to 50: each boundary of seasons, forecasts, and the share. */
final class SeasonsEdgesTest {
  private static final Check check = new Check("SeasonsEdgesTest");

  public static void main(String[] args) {
    leastAndGreatestSeason();
    partsWithAndWithoutDays();
    noSuchPart();
    numbersBecomeLess();
    indexRoundedDown();
    greatestIndex();
    barePriceRoundedDown();
    greatestBarePrice();
    forecastWithoutPrices();
    forecastOfOnePrice();
    forecastOfSixtyPrices();
    forecastWithoutADayOfThePart();
    lastOfTheDays();
    errorOfTooFew();
    errorOfTwo();
    errorByTheDaysAheadAlone();
    errorRoundedDown();
    greatestError();
    bestOfTooFew();
    bestOfSeveral();
    nextDayOfNoneAndOfSixty();
    nextDayAsIfItCame();
    shareWithoutDays();
    leastAndGreatestShare();
    check.finish();
  }

  private static void leastAndGreatestSeason() {
    check.sentence("The season is 2 to 7 days, at first 5");
    PriceIrons x = Check.rising(8);
    check.due("at first", x.setSeason(2), 5);
    check.due("2: the days 1, 3, 5, 7", x.seasonIndex(1), 1111);
    check.due("then 2", x.setSeason(7), 2);
    check.due("7: the days 0 and 7", x.seasonIndex(0), 1000);
    check.illegalArgument(x, "1", () -> x.setSeason(1));
    check.illegalArgument(x, "8", () -> x.setSeason(8));
    check.due("7 still", x.season(), 7);
  }

  private static void partsWithAndWithoutDays() {
    check.sentence("Throws IllegalStateException if it has no days");
    for (int season = 2; season <= 7; season++) {
      for (int days = 0; days <= 8; days++) {
        PriceIrons x = Check.even(days, 9);
        x.setSeason(season);
        for (int each = 0; each < season; each++) {
          int part = each;
          String told = "part " + part + " of " + season + ", " + days + " days";
          if (part < days) {
            check.due(told, x.seasonIndex(part), 1000);
          } else {
            check.illegalState(x, told, () -> x.seasonIndex(part));
          }
        }
      }
    }
    PriceIrons dropped = Check.even(5, 9);
    dropped.dropOldest(1);
    check.illegalState(dropped, "part 4 behind a drop", () -> dropped.seasonIndex(4));
  }

  private static void noSuchPart() {
    check.sentence("0 to the season less 1");
    for (int season = 2; season <= 7; season++) {
      int most = season;
      PriceIrons x = Check.rising(20);
      x.setSeason(season);
      check.due("the last part", x.seasonIndex(season - 1) > 0, true);
      check.outOfBounds(x, "-1 of " + season, () -> x.seasonIndex(-1));
      check.outOfBounds(x, season + " of " + season, () -> x.seasonIndex(most));
      PriceIrons none = new PriceIrons();
      none.setSeason(season);
      check.outOfBounds(none, "-1 without days", () -> none.seasonIndex(-1));
      check.outOfBounds(none, season + " without days", () -> none.seasonIndex(most));
      check.illegalState(none, "0 without days", () -> none.seasonIndex(0));
      check.illegalState(none, "the last part without days", () -> none.seasonIndex(most - 1));
    }
  }

  /** Of the prices 20, 30, 40, 50, 60 the first one is of part 0, though it was of part 1. */
  private static void numbersBecomeLess() {
    check.sentence("Drops the oldest days; the numbers of those behind become less: parts");
    PriceIrons x = Check.rising(6);
    x.setSeason(2);
    check.due("part 0: 10, 30, 50 of 210", x.seasonIndex(0), 857);
    check.due("part 1: 20, 40, 60 of 210", x.seasonIndex(1), 1142);
    x.dropOldest(1);
    check.due("part 0: 20, 40, 60 of 200", x.seasonIndex(0), 1000);
    check.due("part 1: 30, 50 of 200", x.seasonIndex(1), 1000);
    check.due("day 5, part 1: 30, 50", x.forecast(3), 40000);
    check.due("day 0: 20 * 3 * 200 of 120 * 5", x.barePrice(0), 20000);
  }

  private static void indexRoundedDown() {
    check.sentence("The index of a part is 1000 times the mean of its prices ..");
    PriceIrons x = Check.iron(1, 2);
    x.setSeason(2);
    check.due("2000 / 3", x.seasonIndex(0), 666);
    check.due("4000 / 3", x.seasonIndex(1), 1333);
    PriceIrons y = Check.iron(1, 9999);
    y.setSeason(2);
    check.due("2000 / 10000", y.seasonIndex(0), 0);
    check.due("1000 * 9999 * 2 / 10000", y.seasonIndex(1), 1999);
  }

  /** Nine days of 9999 of part 0, and 51 of 1; or one day of 9999 among 60. */
  private static void greatestIndex() {
    check.sentence("1000 times the sum of its prices times the number of all days");
    PriceIrons x = Check.even(60, 1);
    x.setSeason(7);
    for (int day = 0; day < 60; day += 7) {
      x.setPrice(day, 9999);
    }
    check.due("part 0", x.seasonIndex(0), 1000L * 9 * 9999 * 60 / (9L * (9 * 9999 + 51)));
    check.due("part 1", x.seasonIndex(1), 1000L * 9 * 60 / (9L * (9 * 9999 + 51)));
    PriceIrons seven = Check.iron(9999, 1, 1, 1, 1, 1, 1);
    seven.setSeason(7);
    check.due("one day of seven", seven.seasonIndex(0), 1000L * 9999 * 7 / 10005);
    check.due("another of seven", seven.seasonIndex(6), 0);
    PriceIrons even = Check.even(60, 9999);
    even.setSeason(2);
    check.due("30 days of 9999", even.seasonIndex(0), 1000);
  }

  private static void barePriceRoundedDown() {
    check.sentence("The bare price of a day is ..");
    PriceIrons x = Check.iron(1, 1, 2);
    x.setSeason(2);
    check.due("8000 / 9", x.barePrice(0), 888);
    check.due("4000 / 3", x.barePrice(1), 1333);
    check.due("16000 / 9", x.barePrice(2), 1777);
    check.due("of one day", Check.iron(9999).barePrice(0), 9999000);
    check.due("of one day, least", Check.iron(1).barePrice(0), 1000);
  }

  private static void greatestBarePrice() {
    check.sentence("1000 times its price times .. the sum of all prices: beyond an int");
    PriceIrons x = Check.even(60, 1);
    x.setSeason(2);
    x.setPrice(0, 9999);
    for (int day = 1; day < 60; day += 2) {
      x.setPrice(day, 9999);
    }
    BigInteger ofPart = BigInteger.valueOf(9999 + 29);
    BigInteger all = BigInteger.valueOf(31 * 9999 + 29);
    for (int day = 0; day < 4; day += 2) {
      BigInteger due = BigInteger.valueOf(1000L * (day == 0 ? 9999 : 1) * 30).multiply(all)
          .divide(ofPart.multiply(BigInteger.valueOf(60)));
      check.due("day " + day, x.barePrice(day), due.longValueExact());
    }
    check.due("even", Check.even(60, 9999).barePrice(59), 9999000);
  }

  private static void forecastWithoutPrices() {
    check.sentence("forecast throws IllegalStateException if there are no prices");
    PriceIrons x = Check.iron(5);
    x.dropOldest(1);
    for (int each = 0; each < 4; each++) {
      int method = each;
      check.illegalState(new PriceIrons(), "new", () -> new PriceIrons().forecast(method));
      check.illegalState(x, "all are dropped", () -> x.forecast(method));
    }
    x.addPrice(6);
    check.due("one came", x.forecast(0), 6000);
  }

  private static void forecastOfOnePrice() {
    check.sentence("Returns the forecast for the next day: of one price");
    int[] prices = {1, 9999};
    for (int price : prices) {
      for (int method = 0; method < 4; method++) {
        check.due("method " + method, Check.iron(price).forecast(method), 1000 * price);
      }
    }
  }

  /** There is no day 60, yet a forecast for it. */
  private static void forecastOfSixtyPrices() {
    check.sentence("Returns the forecast for the next day: of 60 prices");
    PriceIrons x = Check.rising(60);
    check.due("590 of 580, 590, 600", x.forecast(0), 590000);
    check.due("570 of 540 to 600", x.forecast(1), 570000);
    x.setMemory(0);
    check.due("the last one", x.forecast(2), 600000);
    check.due("the days 0, 5, .. 55", x.forecast(3), 285000);
    x.setSeason(7);
    check.due("the days 4, 11, .. 53", x.forecast(3), 295000);
  }

  private static void forecastWithoutADayOfThePart() {
    check.sentence("if there are none, the forecast by the method 1");
    for (int season = 2; season <= 7; season++) {
      for (int days = 1; days <= 8; days++) {
        PriceIrons x = Check.rising(days);
        x.setSeason(season);
        x.setWindows(1, 20);
        int ofPart = days / season;
        int due = ofPart == 0 ? 5000 * (days + 1)
            : 10000 * (days % season + 1) + 5000 * season * (ofPart - 1);
        check.due(days + " days, season " + season, x.forecast(3), due);
      }
    }
  }

  private static void lastOfTheDays() {
    check.sentence("the mean .. the smoothing at the last of them");
    PriceIrons x = Check.iron(10, 20, 40, 70);
    x.setWindows(2, 3);
    x.setMemory(5);
    check.due("0", x.forecast(0), 55000);
    check.due("1", x.forecast(1), 43333);
    check.due("2", x.forecast(2), 48750);
    x.dropOldest(2);
    check.due("0, behind a drop", x.forecast(0), 55000);
    check.due("1, of two days alone", x.forecast(1), 55000);
    check.due("2, of two days alone", x.forecast(2), 55000);
  }

  private static void errorOfTooFew() {
    check.sentence("error throws IllegalStateException if there are fewer than 2 prices");
    PriceIrons none = new PriceIrons();
    PriceIrons one = Check.iron(5);
    PriceIrons dropped = Check.iron(5, 6);
    dropped.dropOldest(1);
    for (int each = 0; each < 4; each++) {
      int method = each;
      check.illegalState(none, "none", () -> none.error(method));
      check.illegalState(one, "one", () -> one.error(method));
      check.illegalState(dropped, "one behind a drop", () -> dropped.error(method));
    }
  }

  private static void errorOfTwo() {
    check.sentence("The error of a method is the sum, over all days from 1 on: of two prices");
    for (int method = 0; method < 4; method++) {
      check.due("up", Check.iron(5, 6).error(method), 1000);
      check.due("down", Check.iron(6, 5).error(method), 1000);
      check.due("even", Check.iron(5, 5).error(method), 0);
      check.due("greatest up", Check.iron(1, 9999).error(method), 9998000);
      check.due("greatest down", Check.iron(9999, 1).error(method), 9998000);
    }
  }

  /** Method 3 has no day of the part for the days 1 and 2, and day 0 for day 3. */
  private static void errorByTheDaysAheadAlone() {
    check.sentence("the forecast for this day, by the days ahead of it");
    PriceIrons x = Check.iron(10, 20, 60, 40);
    x.setSeason(3);
    check.due("10, 45, 30", x.error(3), 28333);
    x.setSeason(4);
    check.due("10, 45, 10, as with method 1", x.error(3), 21666);
    check.due("method 1", x.error(1), 21666);
    check.due("10, 45, 10 by method 0", x.error(0), 21666);
    x.addPrice(30);
    check.due("a later day adds its own: 10", x.error(0), 18750);
  }

  private static void errorRoundedDown() {
    check.sentence("divided by the number of these days");
    PriceIrons x = Check.iron(1, 2, 4, 4);
    check.due("1000 + 2500 + 1667, of 3", x.error(0), 1722);
    x.undo();
    check.due("1000 + 2500, of 2", x.error(0), 1750);
    x.addPrice(1);
    check.due("1000 + 2500 + 1333, of 3", x.error(0), 1611);
  }

  private static void greatestError() {
    check.sentence("how far the forecast for this day .. is from 1000 times its price");
    PriceIrons x = new PriceIrons();
    for (int day = 0; day < 60; day++) {
      x.addPrice(day % 2 == 0 ? 1 : 9999);
    }
    x.setWindows(1, 2);
    x.setMemory(0);
    check.due("0", x.error(0), 9998000);
    check.due("2", x.error(2), 9998000);
  }

  private static void bestOfTooFew() {
    check.sentence("bestMethod throws IllegalStateException if there are fewer than 2 prices");
    PriceIrons none = new PriceIrons();
    PriceIrons one = Check.iron(5);
    check.illegalState(none, "none", () -> none.bestMethod());
    check.illegalState(one, "one", () -> one.bestMethod());
    check.due("two", Check.iron(5, 6).bestMethod(), 0);
  }

  private static void bestOfSeveral() {
    check.sentence("the method with the least error, of several the lowest");
    check.due("all are 0", Check.even(60, 5).bestMethod(), 0);
    PriceIrons x = Check.iron(10, 20, 10, 20);
    x.setWindows(1, 2);
    check.due("0 of four", x.error(0), 10000);
    check.due("1 of four", x.error(1), 6666);
    check.due("2 of four", x.error(2), 7200);
    check.due("3 of four", x.error(3), 6666);
    check.due("1 and 3", x.bestMethod(), 1);
    PriceIrons rising = Check.rising(4);
    rising.setWindows(1, 2);
    rising.setMemory(0);
    check.due("0 of the rising", rising.error(0), 10000);
    check.due("2 of the rising", rising.error(2), 10000);
    check.due("0 and 2", rising.bestMethod(), 0);
    PriceIrons seasons = Check.iron(10, 50, 10, 50, 10, 50);
    seasons.setSeason(2);
    check.due("3 by itself", seasons.bestMethod(), 3);
  }

  private static void nextDayOfNoneAndOfSixty() {
    check.sentence("crossingWith throws IllegalStateException if there are no prices, or 60");
    PriceIrons x = new PriceIrons();
    check.illegalState(x, "no prices", () -> x.crossingWith(1));
    x.setWindows(1, 2);
    x.addPrice(50);
    check.due("one price, upwards", x.crossingWith(51), 1);
    check.due("one price, even", x.crossingWith(50), 0);
    check.due("one price, downwards", x.crossingWith(49), -1);
    PriceIrons y = Check.even(59, 50);
    check.due("59 prices, upwards", y.crossingWith(51), 1);
    check.due("59 prices, even", y.crossingWith(50), 0);
    check.due("59 prices, downwards", y.crossingWith(49), -1);
    check.due("nothing came", y.days(), 59);
    y.addPrice(50);
    check.illegalState(y, "60 prices", () -> y.crossingWith(51));
    y.dropOldest(60);
    check.illegalState(y, "all are dropped", () -> y.crossingWith(51));
  }

  private static void nextDayAsIfItCame() {
    check.sentence("which crossing there would be at the next day, if it had a price");
    int[] prices = {1, 2, 99, 100, 101, 150, 199, 9998, 9999};
    for (int shorter = 1; shorter <= 4; shorter++) {
      for (int price : prices) {
        PriceIrons x = Check.iron(100, 300, 200, 50, 100);
        x.setWindows(shorter, 5);
        int told = x.crossingWith(price);
        int day = x.addPrice(price);
        check.due("windows " + shorter + ", 5, price " + price, told, x.crossing(day));
      }
    }
    check.same("it changes nothing", Check::busy, () -> {
      PriceIrons x = Check.busy();
      x.crossingWith(9999);
      x.crossingWith(1);
      return x;
    });
  }

  private static void shareWithoutDays() {
    check.sentence("1.0 without days");
    PriceIrons x = new PriceIrons();
    check.due("new", x.smoothShare() == 1.0, true);
    x.setLimit(0);
    Check.work(x, "p5,6");
    check.due("one of two is a crease", x.smoothShare() == 0.5, true);
    x.dropOldest(2);
    check.due("all are dropped", x.smoothShare() == 1.0, true);
  }

  private static void leastAndGreatestShare() {
    check.sentence("the number of days that are no creases .. divided by the number of days");
    PriceIrons x = Check.rising(60);
    x.setWindows(2, 3);
    x.setLimit(9);
    check.due("day 0 alone is none", x.smoothShare() == 1.0 / 60, true);
    check.due("creases", x.creases(), 59);
    x.setLimit(10);
    check.due("all are none", x.smoothShare() == 1.0, true);
    x.setPrice(59, 9999);
    check.due("all but one are none", x.smoothShare() == 59.0 / 60, true);
    PriceIrons three = Check.iron(5, 500, 5);
    check.due("two of three", three.smoothShare() == 2.0 / 3, true);
  }
}
