/** "Terms": each boundary that it names of crossings, the trade, falls and rises. */
final class TradeEdgesTest {
  private static final Check check = new Check("TradeEdgesTest");

  public static void main(String[] args) {
    noCrossingAtDayZero();
    noCrossingWhileTheWindowsAreOne();
    wasNotAtTheDayAhead();
    greaterByTheLeast();
    withoutACrossing();
    asManyCrossingsAsCanBe();
    tenThousandCoins();
    asManyWholePiecesAsPossible();
    noMoreThan999();
    noMoreThan999InAll();
    noCoinsForAPiece();
    allPiecesAreSold();
    nothingToSell();
    worthInPiecesAndCoins();
    behindADay();
    noneAboveZero();
    greatestFalls();
    ofALaterOne();
    risesAreGreater();
    riseWithoutAndWithAll();
    riseAtTheEnds();
    check.finish();
  }

  private static void noCrossingAtDayZero() {
    check.sentence("At a day behind the day 0 there is a crossing");
    int[] prices = {1, 100, 9999};
    for (int price : prices) {
      PriceIrons x = Check.iron(price, 50);
      check.due("day 0 with " + price, x.crossing(0), 0);
      x.setWindows(1, 2);
      check.due("day 0 with " + price + ", windows 1 and 2", x.crossing(0), 0);
    }
    PriceIrons x = Check.iron(50, 60);
    x.setWindows(1, 2);
    check.due("day 1", x.crossing(1), 1);
    x.dropOldest(1);
    check.due("what was day 1 is day 0", x.crossing(0), 0);
    check.due("crossings", x.crossings(), 0);
  }

  /** As long as there are no more days than the short window has, both means are the same. */
  private static void noCrossingWhileTheWindowsAreOne() {
    check.sentence("or fewer, if there are not so many: both means are the same then");
    for (int shorter = 1; shorter <= 10; shorter++) {
      PriceIrons x = Check.rising(12);
      x.setWindows(shorter, shorter + 1);
      for (int day = 0; day < 12; day++) {
        check.due("day " + day + ", window " + shorter, x.crossing(day), day == shorter ? 1 : 0);
      }
      PriceIrons y = Check.falling(12);
      y.setWindows(shorter, shorter + 1);
      check.due("downwards, window " + shorter, y.crossing(shorter), -1);
      check.due("crossings, window " + shorter, y.crossings(), 1);
    }
  }

  /** With windows of 1 and 2 days the short mean is the greater one if the price rises. */
  private static void wasNotAtTheDayAhead() {
    check.sentence("is greater (less) than that of the long one, and was not at the day ahead");
    for (int before = -1; before <= 1; before++) {
      for (int then = -1; then <= 1; then++) {
        PriceIrons x = Check.iron(100, 100 + before, 100 + before + then);
        x.setWindows(1, 2);
        int due = then == before ? 0 : then;
        check.due("from " + before + " to " + then, x.crossing(2), due);
        check.due("crossings from " + before + " to " + then, x.crossings(),
            (before == 0 ? 0 : 1) + (due == 0 ? 0 : 1));
        x.undo();
        x.undo();
        x.setWindows(1, 2);
        check.due("crossingWith from " + before + " to " + then,
            x.crossingWith(100 + before + then), due);
      }
    }
  }

  /** Nine prices against ten: their means can differ by a ninetieth, which is the least. */
  private static void greaterByTheLeast() {
    check.sentence("is greater than that of the long one: by the least");
    PriceIrons x = Check.even(9, 5);
    x.setWindows(9, 10);
    check.due("46 / 9 and 51 / 10", x.crossingWith(6), 1);
    check.due("45 / 9 and 50 / 10", x.crossingWith(5), 0);
    check.due("44 / 9 and 49 / 10", x.crossingWith(4), -1);
    x.addPrice(6);
    check.due("crossing", x.crossing(9), 1);
    PriceIrons high = Check.even(19, 9998);
    high.setWindows(10, 19);
    check.due("9999 at last", high.crossingWith(9999), 1);
    check.due("9998 at last", high.crossingWith(9998), 0);
    check.due("9997 at last", high.crossingWith(9997), -1);
  }

  private static void withoutACrossing() {
    check.sentence("without a crossing");
    PriceIrons none = new PriceIrons();
    check.due("crossings without days", none.crossings(), 0);
    check.due("crossings of one day", Check.iron(5).crossings(), 0);
    PriceIrons x = Check.even(60, 77);
    check.due("crossings", x.crossings(), 0);
    for (int day = 0; day < 60; day++) {
      check.due("crossing " + day, x.crossing(day), 0);
      check.due("pieces " + day, x.pieces(day), 0);
      check.due("worth " + day, x.worth(day), 10000);
    }
  }

  private static void asManyCrossingsAsCanBe() {
    check.sentence("the number of days with a crossing");
    PriceIrons x = new PriceIrons();
    x.setWindows(1, 2);
    for (int day = 0; day < 60; day++) {
      x.addPrice(1 + day % 2);
    }
    check.due("all but day 0", x.crossings(), 59);
    check.due("day 58", x.crossing(58), -1);
    check.due("day 59", x.crossing(59), 1);
  }

  private static void tenThousandCoins() {
    check.sentence("The trade begins with 10000 coins ahead of the day 0");
    PriceIrons x = Check.iron(9999);
    check.due("worth of day 0", x.worth(0), 10000);
    check.due("pieces of day 0", x.pieces(0), 0);
    x.setPrice(0, 1);
    check.due("worth with a price of 1", x.worth(0), 10000);
  }

  /** A crossing upwards at day 1, with this price. */
  private static void bought(int price, int due) {
    PriceIrons x = Check.iron(price - 1, price);
    x.setWindows(1, 2);
    check.due("for " + price, x.pieces(1), due);
    check.due("worth for " + price, x.worth(1), 10000);
    x.addPrice(price + 1);
    check.due("the coins stay, for " + price, x.worth(2), 10000 + due);
  }

  private static void asManyWholePiecesAsPossible() {
    check.sentence("as many whole pieces as possible are bought for the price of the day");
    bought(9998, 1);
    bought(5001, 1);
    bought(5000, 2);
    bought(3334, 2);
    bought(3333, 3);
    bought(100, 100);
    bought(99, 101);
    bought(11, 909);
    PriceIrons x = Check.iron(9998, 9999);
    x.setWindows(1, 2);
    check.due("for 9999", x.pieces(1), 1);
    check.due("worth for 9999", x.worth(1), 10000);
  }

  private static void noMoreThan999() {
    check.sentence("up to 999 pieces");
    bought(10, 999);
    bought(9, 999);
    bought(3, 999);
    bought(2, 999);
    PriceIrons x = Check.iron(5, 1, 9, 1);
    x.setWindows(2, 3);
    check.due("for 1", x.pieces(3), 999);
    check.due("worth for 1", x.worth(3), 10000);
  }

  /**
   * With windows of 2 and 3 days the sides are 0, 0, 0, 1, 1, 0, 1: one piece is bought for 6000 at
   * day 3, and at day 6 more, as there was no crossing downwards.
   */
  private static void noMoreThan999InAll() {
    check.sentence("up to 999 pieces in all");
    PriceIrons x = Check.iron(100, 100, 100, 6000, 4000, 8000, 1);
    x.setWindows(2, 3);
    check.due("day 3", x.crossing(3), 1);
    check.due("day 5", x.crossing(5), 0);
    check.due("day 6", x.crossing(6), 1);
    check.due("one", x.pieces(3), 1);
    check.due("one still", x.pieces(5), 1);
    check.due("4000 coins for 1 each", x.pieces(6), 999);
    check.due("worth", x.worth(6), 4000 - 998 + 999);
    x.setPrice(6, 4);
    check.due("4000 coins for 4 each", x.pieces(6), 999);
    check.due("worth 4 each", x.worth(6), 4000 - 4 * 998 + 4 * 999);
    x.setPrice(6, 5);
    check.due("4000 coins for 5 each", x.pieces(6), 801);
    x.setPrice(6, 1000);
    check.due("4000 coins for 1000 each", x.pieces(6), 5);
    check.due("worth 1000 each", x.worth(6), 5000);
    x.setPrice(6, 4000);
    check.due("4000 coins for 4000", x.pieces(6), 2);
    x.setPrice(6, 4001);
    check.due("4000 coins for 4001", x.pieces(6), 1);
  }

  /** 2 pieces for 5000 are sold for 1 each; 2 coins are too few for a price of 3. */
  private static void noCoinsForAPiece() {
    check.sentence("as many whole pieces as possible: none");
    PriceIrons x = Check.iron(4999, 5000, 1, 3, 4);
    x.setWindows(1, 2);
    check.due("two", x.pieces(1), 2);
    check.due("sold", x.worth(2), 2);
    check.due("upwards", x.crossing(3), 1);
    check.due("none", x.pieces(3), 0);
    check.due("the coins stay", x.worth(4), 2);
    x.setPrice(3, 2);
    check.due("one for 2", x.pieces(3), 1);
    check.due("worth", x.worth(4), 4);
  }

  private static void allPiecesAreSold() {
    check.sentence("at one downwards all pieces are sold for it");
    PriceIrons x = Check.iron(1, 2, 9999, 9998, 1);
    x.setWindows(1, 2);
    check.due("999", x.pieces(1), 999);
    check.due("worth 999 of 9999", x.worth(2), 8002 + 999L * 9999);
    check.due("sold", x.pieces(3), 0);
    check.due("worth", x.worth(3), 8002 + 999L * 9998);
    check.due("no more than the coins", x.worth(4), 8002 + 999L * 9998);
    PriceIrons rounds = new PriceIrons();
    rounds.setWindows(1, 2);
    int[] round = {1, 2, 9999, 9998};
    for (int day = 0; day < 60; day++) {
      rounds.addPrice(round[day % 4]);
    }
    check.due("15 times", rounds.worth(59), 10000 + 15L * 999 * 9996);
  }

  private static void nothingToSell() {
    check.sentence("at one downwards all pieces are sold: none is there");
    PriceIrons x = Check.iron(100, 90, 95, 95, 90);
    x.setWindows(1, 2);
    check.due("downwards", x.crossing(1), -1);
    check.due("pieces", x.pieces(1), 0);
    check.due("worth", x.worth(1), 10000);
    check.due("105 for 95", x.pieces(2), 105);
  }

  private static void worthInPiecesAndCoins() {
    check.sentence("are the coins, and the pieces times the price of the day");
    PriceIrons x = Check.iron(2, 3, 4, 9999);
    x.setWindows(1, 2);
    check.due("at the crossing", x.worth(1), 10000);
    check.due("behind it", x.worth(2), 10000 - 999 * 3 + 999 * 4);
    check.due("greatest price", x.worth(3), 10000 - 999 * 3 + 999L * 9999);
    x.setPrice(3, 5);
    check.due("by the price of the day", x.worth(3), 10000 - 999 * 3 + 999 * 5);
  }

  private static void behindADay() {
    check.sentence("the pieces that the trade has behind a day");
    PriceIrons x = Check.iron(100, 100, 200, 100, 200);
    x.setWindows(1, 2);
    int[] due = {0, 0, 50, 0, 25};
    for (int day = 4; day >= 0; day--) {
      check.due("asked from the last day on, " + day, x.pieces(day), due[day]);
    }
    for (int day = 0; day < 5; day++) {
      check.due("asked from the first day on, " + day, x.pieces(day), due[day]);
    }
    check.due("later days do not count", x.worth(1), 10000);
  }

  private static void fall(int due, int... prices) {
    PriceIrons x = Check.iron(prices);
    String told = java.util.Arrays.toString(prices);
    check.due("greatestFall of " + told, x.greatestFall(), due);
    check.due("greatestFallByPairs of " + told, x.greatestFallByPairs(), due);
  }

  private static void noneAboveZero() {
    check.sentence("the greatest fall is 0, if there is none above 0");
    fall(0);
    fall(0, 1);
    fall(0, 9999);
    fall(0, 7, 7);
    fall(0, 1, 9999);
    fall(0, 1, 1, 2, 2, 3, 3);
    check.due("60 even days", Check.even(60, 9999).greatestFall(), 0);
    check.due("60 even days by pairs", Check.even(60, 9999).greatestFallByPairs(), 0);
    check.due("60 days up", Check.rising(60).greatestFall(), 0);
    check.due("60 days up by pairs", Check.rising(60).greatestFallByPairs(), 0);
  }

  private static void greatestFalls() {
    check.sentence("A fall is the price of a day less that of a later one");
    fall(1, 2, 1);
    fall(9998, 9999, 1);
    fall(9998, 9999, 5000, 1);
    fall(9998, 5, 9999, 1, 7);
    check.due("from day 0 to day 59", Check.falling(60).greatestFall(), 590);
    check.due("from day 0 to day 59 by pairs", Check.falling(60).greatestFallByPairs(), 590);
  }

  private static void ofALaterOne() {
    check.sentence("of a later one");
    fall(3, 1, 10, 7);
    fall(20, 1, 30, 10, 90, 80);
    fall(25, 30, 5, 90, 80);
    PriceIrons x = Check.iron(9999, 50, 10, 40);
    x.dropOldest(1);
    check.due("a day that is dropped", x.greatestFall(), 40);
    check.due("a day that is dropped, by pairs", x.greatestFallByPairs(), 40);
  }

  private static void rise(int due, int... prices) {
    check.due("of " + java.util.Arrays.toString(prices), Check.iron(prices).longestRise(), due);
  }

  private static void risesAreGreater() {
    check.sentence("of which each but the first has a greater price than the one ahead");
    rise(0, 5, 5);
    rise(1, 5, 6, 6);
    rise(1, 5, 5, 6);
    rise(1, 5, 6, 6, 7);
    rise(2, 5, 6, 7, 7, 8);
    rise(1, 9998, 9999);
    rise(1, 1, 2);
  }

  private static void riseWithoutAndWithAll() {
    check.sentence("its length is their number less 1; 0 without one");
    rise(0);
    rise(0, 5);
    rise(0, 9, 8, 7);
    check.due("60 even days", Check.even(60, 5).longestRise(), 0);
    check.due("60 days down", Check.falling(60).longestRise(), 0);
    check.due("60 days up", Check.rising(60).longestRise(), 59);
    PriceIrons x = Check.rising(60);
    x.setPrice(30, 1);
    check.due("broken at day 30", x.longestRise(), 29);
    x.dropOldest(31);
    check.due("the days behind it", x.longestRise(), 28);
  }

  private static void riseAtTheEnds() {
    check.sentence("days, one behind the other");
    rise(2, 1, 2, 3, 1);
    rise(2, 9, 1, 2, 3);
    rise(2, 1, 2, 3, 1, 2, 3);
    rise(3, 1, 2, 3, 1, 2, 3, 4);
    rise(3, 1, 2, 3, 4, 1, 2, 3);
  }
}
