import java.math.BigInteger;
import java.util.ArrayList;
import java.util.List;
import java.util.function.Supplier;

/**
 * Promise 51: each boundary of the digest: what is in its list, and what is not, without days, with
 * one, with two, with 60; with and without a stop; and the overflow. The due hash is told without
 * overflow, by the answers of the other calls, and then cut to 64 bits. These calls are asked of
 * many irons that are made alike, as one iron answers 512 calls alone.
 */
final class DigestEdgesTest {
  private static final Check check = new Check("DigestEdgesTest");

  public static void main(String[] args) {
    overflows();
    withoutDays();
    forecastsOfOnePrice();
    errorsOfTwoPrices();
    ofSixtyDays();
    partsWithDays();
    ofAStop();
    everyShare();
    everyCode();
    changesNothing();
    check.finish();
  }

  private static BigInteger hash(List<Long> values) {
    BigInteger hash = BigInteger.valueOf(4523);
    for (long value : values) {
      hash = hash.multiply(BigInteger.valueOf(31)).add(BigInteger.valueOf(value));
    }
    return hash;
  }

  private static List<Long> list(long... values) {
    List<Long> list = new ArrayList<>();
    for (long value : values) {
      list.add(value);
    }
    return list;
  }

  /** The values of an iron that has this text in its buffer. */
  private static List<Long> values(Supplier<PriceIrons> made, String text) {
    PriceIrons x = made.get();
    List<Long> all = list(x.days(), x.shortWindow(), x.longWindow(), x.season(), x.creases(),
        x.crossings(), x.greatestFall(), x.greatestFallByPairs(), x.longestRise(),
        x.savedStates());
    for (int day = 0; day < x.days(); day++) {
      all.addAll(ofADay(made.get(), day));
    }
    for (int part = 0; part < x.season() && part < x.days(); part++) {
      all.add((long) x.seasonIndex(part));
    }
    if (x.days() >= 1) {
      all.addAll(list(x.forecast(0), x.forecast(1), x.forecast(2), x.forecast(3)));
    }
    if (x.days() >= 2) {
      all.addAll(list(x.error(0), x.error(1), x.error(2), x.error(3), x.bestMethod()));
    }
    all.add(x.hasStopped() ? 1L : 0L);
    if (x.hasStopped()) {
      all.addAll(list(x.stoppedPart(), x.whyStopped()));
    }
    all.add(Double.doubleToLongBits(x.smoothShare()));
    all.add((long) text.length());
    for (int index = 0; index < text.length(); index++) {
      all.add((long) text.charAt(index));
    }
    return all;
  }

  private static List<Long> ofADay(PriceIrons x, int day) {
    return list(x.priceOf(day), x.mean(day, x.shortWindow()), x.meanBySums(day, x.shortWindow()),
        x.mean(day, x.longWindow()), x.weightedMean(day), x.smoothed(day), x.smoothedBack(day),
        x.median(day), x.isCrease(day) ? 1 : 0, x.high(day), x.highByCandidates(day),
        x.crossing(day), x.pieces(day), x.worth(day), x.barePrice(day));
  }

  private static void digest(String told, Supplier<PriceIrons> made, String text) {
    check.due(told, made.get().digest(), hash(values(made, text)).longValue());
  }

  /** An iron with these changes behind the prices. */
  private static Supplier<PriceIrons> changed(Supplier<PriceIrons> made, Check.Use... changes) {
    return () -> {
      PriceIrons x = made.get();
      for (Check.Use change : changes) {
        change.of(x);
      }
      return x;
    };
  }

  private static void overflows() {
    check.sentence("the hash becomes 31 * hash + v, in long arithmetic with overflow");
    long one = Double.doubleToLongBits(1.0);
    BigInteger due = hash(list(0, 3, 7, 5, 0, 0, 0, 0, 0, 0, 0, one, 0));
    check.due("it is beyond a long", due.bitLength() > 63, true);
    check.due("new", new PriceIrons().digest(), due.longValue());
    due = hash(list(1, 3, 7, 5, 0, 0, 0, 0, 0, 1, 9999, 9999000, 9999000, 9999000, 9999000,
        9999000, 9999000, 9999, 0, 9999, 9999, 0, 0, 10000, 9999000, 1000, 9999000, 9999000,
        9999000, 9999000, 0, one, 0));
    check.due("one day", Check.iron(9999).digest(), due.longValue());
  }

  private static void withoutDays() {
    check.sentence("for each day ..: without days");
    digest("new", PriceIrons::new, "");
    digest("two saved states",
        changed(PriceIrons::new, x -> x.setWindows(1, 2), x -> x.setSeason(7)), "");
    digest("all are dropped", changed(() -> Check.iron(5), x -> x.dropOldest(1)), "");
  }

  private static void forecastsOfOnePrice() {
    check.sentence("if there are prices, forecast of each method");
    Supplier<PriceIrons> made = () -> Check.iron(5);
    digest("one price", made, "");
    check.due("no errors: the values", values(made, "").size(), 10 + 15 + 1 + 4 + 1 + 1 + 1);
  }

  private static void errorsOfTwoPrices() {
    check.sentence("if there are 2 or more, error of each method, and bestMethod");
    Supplier<PriceIrons> made = () -> Check.iron(500, 7);
    digest("two prices", made, "");
    check.due("the values", values(made, "").size(), 10 + 30 + 2 + 4 + 5 + 1 + 1 + 1);
    digest("three prices", changed(made, x -> x.addPrice(900), x -> x.setWindows(1, 2)), "");
  }

  private static PriceIrons upAndDown() {
    PriceIrons x = new PriceIrons();
    for (int day = 0; day < 60; day++) {
      x.addPrice(1 + (day * day * 733 + day * 57) % 9999);
    }
    x.setWindows(2, 5);
    x.setMemory(4);
    return x;
  }

  private static void ofSixtyDays() {
    check.sentence("for each day ..: 60 days");
    PriceIrons x = upAndDown();
    check.due("some creases", x.creases() > 5, true);
    check.due("some crossings", x.crossings() > 5, true);
    check.due("more than coins", x.worth(59) != 10000, true);
    digest("prices up and down", DigestEdgesTest::upAndDown, "");
    digest("60 even days", () -> Check.even(60, 9999), "");
    digest("a full one", Check::full, "m1;".repeat(20));
    digest("a busy one", Check::busy, "p1,");
  }

  private static void partsWithDays() {
    check.sentence("for each part of the season that has days");
    for (int each = 2; each <= 7; each++) {
      int season = each;
      for (int length = 0; length <= 8; length++) {
        int days = length;
        digest(days + " days, season " + season,
            changed(() -> Check.rising(days), x -> x.setSeason(season)), "");
      }
    }
  }

  private static void ofAStop() {
    check.sentence("hasStopped, and, if that is true, stoppedPart and whyStopped");
    Supplier<PriceIrons> made = () -> Check.iron(5);
    String[] texts = {"x9", "a", "a;x0", "m1;m2;w2:2", "m6"};
    for (String text : texts) {
      made = changed(made, x -> Check.work(x, text));
      digest("behind " + text, made, "");
    }
    digest("behind an undo", changed(made, x -> x.undo()), "");
  }

  /** The first days have a price of 1, and so are no creases; the others rise, and are some. */
  private static PriceIrons evenAtFirst(int even, int days) {
    PriceIrons x = new PriceIrons();
    for (int day = 0; day < days; day++) {
      x.addPrice(day < even ? 1 : 1 + day);
    }
    x.setLimit(0);
    x.setWindows(2, 3);
    return x;
  }

  private static void everyShare() {
    check.sentence("the bits of smoothShare (as Double.doubleToLongBits)");
    for (int length = 1; length <= 60; length++) {
      int days = length;
      for (int each = 1; each <= days; each++) {
        int even = each;
        check.due("creases", evenAtFirst(even, days).creases(), days - even);
        digest(even + " of " + days, () -> evenAtFirst(even, days), "");
      }
    }
  }

  private static void everyCode() {
    check.sentence("the length of the buffer and each of its character codes");
    StringBuilder signs = new StringBuilder();
    for (char code = 33; code <= 126; code++) {
      signs.append(code);
    }
    for (int length = 0; length <= 60; length++) {
      typed(signs.substring(0, length));
      typed(signs.substring(signs.length() - length));
    }
    digest("a cleared buffer",
        changed(PriceIrons::new, x -> x.append('p'), x -> x.clearBuffer()), "");
  }

  private static void typed(String text) {
    digest("of " + text, () -> {
      PriceIrons x = new PriceIrons();
      Check.type(x, text);
      return x;
    }, text);
  }

  private static void changesNothing() {
    check.sentence("looks: nothing is changed");
    check.same("the digest changes something", Check::busy, changed(Check::busy, x -> x.digest()));
    PriceIrons x = Check.busy();
    check.due("the same again", x.digest(), x.digest());
  }
}
