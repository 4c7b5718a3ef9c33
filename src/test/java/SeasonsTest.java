/** Promises 40 to 45: falls, rises, seasons. */
final class SeasonsTest {
  private static final Check check = new Check("SeasonsTest");

  public static void main(String[] args) {
    falls();
    longestRise();
    season();
    seasonIndex();
    barePrice();
    check.finish();
  }

  private static void fall(int due, int... prices) {
    PriceIrons x = Check.iron(prices);
    check.due("greatestFall", x.greatestFall(), due);
    check.due("greatestFallByPairs", x.greatestFallByPairs(), due);
  }

  /** Promises 40 and 41. */
  private static void falls() {
    fall(0);
    fall(0, 5);
    fall(0, 1, 2, 2, 9999);
    fall(9998, 9999, 1);
    fall(0, 1, 9999);
    fall(30, 50, 20, 40, 35);
    fall(35, 50, 20, 60, 25, 40);
    fall(40, 50, 60, 30, 20, 45);
    fall(50, 60, 10, 55, 12);
  }

  private static void rise(int due, int... prices) {
    check.due("longestRise", Check.iron(prices).longestRise(), due);
  }

  /** Promise 42. */
  private static void longestRise() {
    rise(0);
    rise(0, 5);
    rise(0, 5, 5, 4);
    rise(1, 5, 6);
    rise(2, 1, 2, 3, 3, 4);
    rise(3, 1, 2, 1, 2, 3, 4);
    rise(3, 4, 1, 2, 3, 4, 1, 2, 3);
    PriceIrons x = new PriceIrons();
    for (int day = 0; day < 60; day++) {
      x.addPrice(day + 1);
    }
    check.due("60 days", x.longestRise(), 59);
  }

  /** Promise 43. */
  private static void season() {
    PriceIrons x = new PriceIrons();
    check.due("at first", x.season(), 5);
    x.setSeason(7);
    check.due("set", x.season(), 7);
  }

  /** Promise 44. */
  private static void seasonIndex() {
    PriceIrons x = Check.iron(10, 20, 40, 1, 2);
    x.setSeason(3);
    // All: 73 in 5 days. Part 0: 11 in 2; part 1: 22 in 2; part 2: 40 in 1.
    check.due("part 0", x.seasonIndex(0), 1000 * 11 * 5 / (2 * 73));
    check.due("part 1", x.seasonIndex(1), 753);
    check.due("part 2", x.seasonIndex(2), 2739);
    check.outOfBounds(x, "part 3", () -> x.seasonIndex(3));
    check.outOfBounds(x, "part -1", () -> x.seasonIndex(-1));
    x.setSeason(7);
    check.due("part 4 of 7", x.seasonIndex(4), 136);
    check.illegalState(x, "part 5 of 7", () -> x.seasonIndex(5));
    check.illegalState(x, "part 6 of 7", () -> x.seasonIndex(6));
    check.outOfBounds(x, "part 7 of 7", () -> x.seasonIndex(7));
    PriceIrons y = new PriceIrons();
    check.illegalState(y, "no days at all", () -> y.seasonIndex(0));
    check.outOfBounds(y, "no such part", () -> y.seasonIndex(5));
    PriceIrons full = Check.even(60, 9999);
    full.setSeason(2);
    check.due("great numbers", full.seasonIndex(1), 1000);
  }

  /** Promise 45. */
  private static void barePrice() {
    PriceIrons x = Check.iron(10, 20, 40, 1, 2);
    x.setSeason(3);
    check.due("0", x.barePrice(0), 26545);
    check.due("1", x.barePrice(1), 26545);
    check.due("2", x.barePrice(2), 14600);
    check.due("3", x.barePrice(3), 2654);
    check.due("4", x.barePrice(4), 2654);
    check.outOfBounds(x, "5", () -> x.barePrice(5));
    check.outOfBounds(x, "-1", () -> x.barePrice(-1));
    PriceIrons full = Check.even(60, 9999);
    full.setSeason(2);
    check.due("great numbers", full.barePrice(59), 9999000);
    full.dropOldest(40);
    full.setPrice(0, 1);
    // Part 0: 1 and nine of 9999; part 1: ten of 9999.
    check.due("less", full.barePrice(0), 1000L * 10 * 189982 / (89992L * 20));
    check.due("more", full.barePrice(2), 1000L * 9999 * 10 * 189982 / (89992L * 20));
  }
}
