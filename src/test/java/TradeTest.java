/** Promises 34 to 39: highs, crossings, and the trade. */
final class TradeTest {
  private static final Check check = new Check("TradeTest");

  public static void main(String[] args) {
    highs();
    crossing();
    crossings();
    pieces();
    buysMore();
    mostPieces();
    worth();
    wrongDays();
    check.finish();
  }

  private static void high(PriceIrons x, int day, int due) {
    check.due("high " + day, x.high(day), due);
    check.due("highByCandidates " + day, x.highByCandidates(day), due);
  }

  /** Promises 34 and 35. */
  private static void highs() {
    PriceIrons x = Check.iron(50, 20, 30, 10, 40, 40, 5, 1);
    x.setWindows(1, 3);
    int[] due = {50, 50, 50, 30, 40, 40, 40, 40};
    for (int day = 0; day < due.length; day++) {
      high(x, day, due[day]);
    }
    x.setWindows(1, 2);
    int[] dueOfTwo = {50, 50, 30, 30, 40, 40, 40, 5};
    for (int day = 0; day < dueOfTwo.length; day++) {
      high(x, day, dueOfTwo[day]);
    }
    x.setWindows(1, 20);
    high(x, 7, 50);
    PriceIrons falling = new PriceIrons();
    for (int day = 0; day < 60; day++) {
      falling.addPrice(9999 - day);
    }
    falling.setWindows(1, 20);
    high(falling, 59, 9999 - 40);
    high(falling, 0, 9999);
    PriceIrons even = Check.even(60, 7);
    high(even, 59, 7);
  }

  /** Promise 36. */
  private static void crossing() {
    PriceIrons x = Check.iron(100, 100, 160, 100, 100, 40, 100, 100, 100);
    x.setWindows(1, 2);
    // The side of the short mean: 0, 0, 1, -1, 0, -1, 1, 0, 0.
    int[] due = {0, 0, 1, -1, 0, -1, 1, 0, 0};
    for (int day = 0; day < due.length; day++) {
      check.due("crossing " + day, x.crossing(day), due[day]);
    }
    PriceIrons rising = Check.iron(1, 2, 3, 4);
    check.due("upwards", rising.crossing(3), 1);
    rising.addPrice(5);
    check.due("was so at the day ahead", rising.crossing(4), 0);
    PriceIrons falling = Check.iron(4, 4, 4, 4, 3, 2);
    check.due("downwards", falling.crossing(4), -1);
    check.due("was so too", falling.crossing(5), 0);
  }

  /** Promise 37. */
  private static void crossings() {
    PriceIrons x = new PriceIrons();
    check.due("without days", x.crossings(), 0);
    x.addPrice(5);
    check.due("one day", x.crossings(), 0);
    PriceIrons y = Check.iron(100, 100, 160, 100, 100, 40, 100, 100, 100);
    y.setWindows(1, 2);
    check.due("upwards and downwards", y.crossings(), 4);
  }

  /** Promise 38. */
  private static void pieces() {
    PriceIrons x = Check.iron(100, 100, 160, 100, 100, 40, 100, 100, 3000);
    x.setWindows(1, 2);
    // Day 2: 62 for 160 each, 80 coins left. Day 3: sold for 100 each, 6280 coins.
    // Day 6: 62 for 100 each, 80 coins left. Day 7: none, though the sides are even.
    // Day 8: crossing upwards again, but no coins for a piece.
    int[] due = {0, 0, 62, 0, 0, 0, 62, 62, 62};
    for (int day = 0; day < due.length; day++) {
      check.due("pieces " + day, x.pieces(day), due[day]);
    }
    x.setPrice(8, 3);
    check.due("sold on a fall", x.pieces(8), 0);
    PriceIrons dear = Check.iron(1, 9999);
    check.due("one piece", dear.pieces(1), 0);
    dear.addPrice(9999);
    dear.addPrice(9999);
    check.due("at the crossing", dear.pieces(3), 1);
  }

  /** Two crossings upwards, and none downwards between them: more is bought. */
  private static void buysMore() {
    PriceIrons x = Check.iron(100, 100, 9000, 9000, 9001);
    x.setWindows(1, 2);
    check.due("one piece", x.pieces(2), 1);
    check.due("even sides", x.crossing(3), 0);
    check.due("upwards again", x.crossing(4), 1);
    check.due("1000 coins buy none", x.pieces(4), 1);
    check.due("worth", x.worth(4), 1000 + 9001);
    PriceIrons y = Check.iron(1, 3500, 3500, 3501);
    y.setWindows(1, 2);
    check.due("two", y.pieces(1), 2);
    y.setPrice(1, 2);
    y.setPrice(2, 2);
    y.setPrice(3, 3);
    check.due("999 for 2 each", y.pieces(1), 999);
    check.due("no more than 999", y.pieces(3), 999);
    check.due("8002 coins stay", y.worth(3), 8002 + 3 * 999);
    PriceIrons z = Check.iron(60, 61, 60, 61, 61, 62);
    z.setWindows(1, 2);
    // Day 1: 163 for 61, 57 left. Day 2: sold for 60: 9837. Day 3: 161 for 61, 16 left.
    check.due("day 1", z.pieces(1), 163);
    check.due("day 2", z.pieces(2), 0);
    check.due("worth 2", z.worth(2), 9837);
    check.due("day 3", z.pieces(3), 161);
    check.due("day 5: 16 coins", z.pieces(5), 161);
    check.due("worth 5", z.worth(5), 16 + 161 * 62);
  }

  private static void mostPieces() {
    PriceIrons x = Check.iron(1, 2, 1, 10, 10, 11);
    x.setWindows(1, 2);
    // Day 1: 999 for 2, 8002 left. Day 2: sold for 1: 9001. Day 3: 900 for 10, 1 left.
    check.due("999 of 5000", x.pieces(1), 999);
    check.due("sold", x.worth(2), 9001);
    check.due("900", x.pieces(3), 900);
    check.due("worth", x.worth(3), 9001);
    PriceIrons y = Check.iron(10, 10, 11, 11, 12);
    y.setWindows(1, 2);
    check.due("909", y.pieces(2), 909);
    check.due("1 coin buys none", y.pieces(4), 909);
    PriceIrons z = Check.iron(1, 2, 9999, 1, 11, 9999, 9998, 10, 10, 11);
    z.setWindows(1, 2);
    // 999 pieces bought for 2 are sold for 1, at day 3; then 818 for 11, sold for 9998.
    check.due("many coins", z.worth(6), 3 + 818L * 9998);
    check.due("no more than 999", z.pieces(9), 999);
    check.due("the other coins stay", z.worth(9), 3 + 818L * 9998);
    z.setPrice(9, 9999);
    check.due("as many as possible", z.pieces(9), 817);
  }

  /** Promise 39. */
  private static void worth() {
    PriceIrons x = Check.iron(100, 100, 160, 100, 100, 40, 100, 90, 3000);
    x.setWindows(1, 2);
    long[] due = {10000, 10000, 10000, 6280, 6280, 6280, 6280, 80 + 62 * 90, 62L * 90 + 80};
    for (int day = 0; day < due.length; day++) {
      check.due("worth " + day, x.worth(day), due[day]);
    }
    PriceIrons y = Check.iron(100, 100, 160, 170);
    y.setWindows(1, 2);
    check.due("grows with the price", y.worth(3), 80 + 62 * 170);
    PriceIrons even = Check.even(60, 9999);
    check.due("no trade", even.worth(59), 10000);
  }

  private static void wrongDays() {
    PriceIrons x = Check.iron(10, 20, 40);
    int[] wrong = {-1, 3, 59, 60, Integer.MIN_VALUE, Integer.MAX_VALUE};
    for (int day : wrong) {
      check.outOfBounds(x, "high " + day, () -> x.high(day));
      check.outOfBounds(x, "highByCandidates " + day, () -> x.highByCandidates(day));
      check.outOfBounds(x, "crossing " + day, () -> x.crossing(day));
      check.outOfBounds(x, "pieces " + day, () -> x.pieces(day));
      check.outOfBounds(x, "worth " + day, () -> x.worth(day));
    }
  }
}
