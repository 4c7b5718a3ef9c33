import java.util.function.Supplier;

/**
 * Promises 2 to 49: each range of an argument. What is in the range goes, from the least to the
 * greatest; what is just outside, or as far as an int goes, is refused. And promises 1 to 51: what
 * is answered where nothing is there yet.
 */
final class RangesEdgesTest {
  private interface Asked {
    long of(PriceIrons x, int value);
  }

  private static final Class<IndexOutOfBoundsException> BOUNDS = IndexOutOfBoundsException.class;
  private static final Class<IllegalArgumentException> ARGUMENT = IllegalArgumentException.class;

  private static final Check check = new Check("RangesEdgesTest");

  public static void main(String[] args) {
    prices();
    daysToDrop();
    settings();
    codes();
    daysToLookAt();
    daysToPress();
    windowsToLookBy();
    methodsAndParts();
    newObject();
    withoutDays();
    answersOfChanges();
    allCallsOfAnObject();
    check.finish();
  }

  /** Each value of the range goes (each with an iron of its own), and none outside. */
  private static void range(String call, int least, int most,
      Class<? extends RuntimeException> kind, Supplier<PriceIrons> made, Asked asked) {
    check.sentence(call + ": " + least + " to " + most);
    int step = Math.max(1, (most - least) / 200);
    for (int value = least; value <= most; value += step) {
      goes(value, made, asked);
    }
    if (least <= most) {
      goes(most, made, asked);
      goes(most - (most - least) / 2, made, asked);
    }
    int[] outside = {least - 1, least - 2, most + 1, most + 2, least - 256, most + 256,
        least - 65536, most + 65536, Integer.MIN_VALUE, Integer.MIN_VALUE + 1, Integer.MAX_VALUE,
        Integer.MAX_VALUE - 1};
    for (int value : outside) {
      Class<?> thrown = Check.thrownBy(made.get(), x -> asked.of(x, value));
      if (thrown != kind) {
        check.wrong("of " + value + " threw " + thrown);
      }
    }
  }

  private static void goes(int value, Supplier<PriceIrons> made, Asked asked) {
    Class<?> thrown = Check.thrownBy(made.get(), x -> asked.of(x, value));
    check.due(value + (thrown == null ? "" : " threw " + thrown), thrown == null, true);
  }

  private static void prices() {
    range("addPrice", 1, 9999, ARGUMENT, Check::busy, (x, price) -> x.addPrice(price));
    range("setPrice", 1, 9999, ARGUMENT, Check::busy, (x, price) -> x.setPrice(6, price));
    range("crossingWith", 1, 9999, ARGUMENT, Check::busy, (x, price) -> x.crossingWith(price));
  }

  private static void daysToDrop() {
    range("dropOldest", 1, 60, ARGUMENT, Check::full, (x, days) -> x.dropOldest(days));
    check.sentence("dropOldest throws IllegalStateException if there are fewer");
    for (int days = 0; days <= 60; days++) {
      for (int dropped = 1; dropped <= 60; dropped++) {
        int drop = dropped;
        PriceIrons x = Check.rising(days);
        Class<?> thrown = Check.thrownBy(x, y -> y.dropOldest(drop));
        boolean fewer = days < drop;
        check.due(drop + " of " + days, thrown == (fewer ? IllegalStateException.class : null),
            true);
        check.due(drop + " of " + days + ": left", x.days(), fewer ? days : days - drop);
        if (x.days() > 0) {
          check.due(drop + " of " + days + ": day 0", x.priceOf(0), fewer ? 10 : 10 * (drop + 1));
          check.due(drop + " of " + days + ": last", x.priceOf(x.days() - 1), 10 * days);
        }
      }
    }
  }

  private static void settings() {
    range("setWindows, shorter", 1, 10, ARGUMENT, Check::busy, (x, days) -> x.setWindows(days, 20));
    range("setWindows, longer", 2, 20, ARGUMENT, Check::busy, (x, days) -> x.setWindows(1, days));
    range("setMemory", 0, 9, ARGUMENT, Check::busy, (x, memory) -> x.setMemory(memory));
    range("setLimit", 0, 9999, ARGUMENT, Check::busy, (x, limit) -> x.setLimit(limit));
    range("setSeason", 2, 7, ARGUMENT, Check::busy, (x, days) -> x.setSeason(days));
  }

  private static void codes() {
    range("append", 33, 126, ARGUMENT, Check::busy, (x, code) -> x.append(code));
  }

  private static void daysToLookAt() {
    int[] lengths = {0, 1, 2, 20, 60};
    for (int length : lengths) {
      Supplier<PriceIrons> made = () -> Check.rising(length);
      ofADay("setPrice", length, made, (x, day) -> x.setPrice(day, 5));
      ofADay("priceOf", length, made, (x, day) -> x.priceOf(day));
      ofADay("mean", length, made, (x, day) -> x.mean(day, 20));
      ofADay("meanBySums", length, made, (x, day) -> x.meanBySums(day, 20));
      ofADay("weightedMean", length, made, (x, day) -> x.weightedMean(day));
      ofADay("smoothed", length, made, (x, day) -> x.smoothed(day));
      ofADay("smoothedBack", length, made, (x, day) -> x.smoothedBack(day));
      ofADay("median", length, made, (x, day) -> x.median(day));
      ofADay("isCrease", length, made, (x, day) -> x.isCrease(day) ? 1 : 0);
      ofADay("high", length, made, (x, day) -> x.high(day));
      ofADay("highByCandidates", length, made, (x, day) -> x.highByCandidates(day));
      ofADay("crossing", length, made, (x, day) -> x.crossing(day));
      ofADay("pieces", length, made, (x, day) -> x.pieces(day));
      ofADay("worth", length, made, (x, day) -> x.worth(day));
      ofADay("barePrice", length, made, (x, day) -> x.barePrice(day));
    }
  }

  /** Also when days have been there, but are dropped or undone. */
  private static void ofADay(String call, int days, Supplier<PriceIrons> made, Asked asked) {
    range(call + ", day", 0, days - 1, BOUNDS, made, asked);
    if (days >= 2) {
      range(call + ", day, behind a drop", 0, days - 2, BOUNDS, () -> {
        PriceIrons x = made.get();
        x.dropOldest(1);
        return x;
      }, asked);
      range(call + ", day, behind an undo", 0, days - 2, BOUNDS, () -> {
        PriceIrons x = made.get();
        x.undo();
        return x;
      }, asked);
    }
  }

  /** Each day but day 0 is a crease in a row that rises, by the lesser of two prices. */
  private static void daysToPress() {
    Supplier<PriceIrons> made = () -> {
      PriceIrons x = Check.rising(60);
      x.setLimit(9);
      x.setWindows(2, 3);
      return x;
    };
    check.sentence("press throws IndexOutOfBoundsException if there is no such day");
    int[] outside = {-1, 60, 61, Integer.MIN_VALUE, Integer.MAX_VALUE};
    for (int day : outside) {
      check.refused(made, "day " + day, BOUNDS, x -> x.press(day));
    }
    check.refused(made, "day 0 is no crease", IllegalStateException.class, x -> x.press(0));
    for (int day = 1; day < 60; day++) {
      PriceIrons x = made.get();
      check.due("its price then, day " + day, x.press(day), 10 * day);
      check.due("the price, day " + day, x.priceOf(day), 10 * day);
      check.due("the day ahead of it, " + day, x.priceOf(day - 1), 10 * day);
      check.due("creases behind it, day " + day, x.creases(), 58);
    }
  }

  private static void windowsToLookBy() {
    range("mean, window", 1, 20, ARGUMENT, Check::full, (x, window) -> x.mean(59, window));
    range("mean, window, day 0", 1, 20, ARGUMENT, Check::busy, (x, window) -> x.mean(0, window));
    range("meanBySums, window", 1, 20, ARGUMENT, Check::full,
        (x, window) -> x.meanBySums(59, window));
    range("meanBySums, window, day 0", 1, 20, ARGUMENT, Check::busy,
        (x, window) -> x.meanBySums(0, window));
  }

  private static void methodsAndParts() {
    range("forecast", 0, 3, ARGUMENT, Check::busy, (x, method) -> x.forecast(method));
    range("error", 0, 3, ARGUMENT, Check::busy, (x, method) -> x.error(method));
    for (int each = 2; each <= 7; each++) {
      int season = each;
      range("seasonIndex, season " + season, 0, season - 1, BOUNDS, () -> {
        PriceIrons x = Check.full();
        x.setSeason(season);
        return x;
      }, (x, part) -> x.seasonIndex(part));
    }
  }

  private static void newObject() {
    check.sentence("an iron without prices, settings as told above, no snapshot, an empty buffer");
    PriceIrons x = new PriceIrons();
    check.due("days", x.days(), 0);
    check.due("savedStates", x.savedStates(), 0);
    check.due("hasStopped", x.hasStopped(), false);
    check.due("firstError", x.firstError(), 0);
    check.due("clearBuffer", x.clearBuffer(), 0);
    check.illegalState(x, "restore", () -> x.restore());
    check.illegalState(x, "undo", () -> x.undo());
    check.due("shortWindow", x.shortWindow(), 3);
    check.due("longWindow", x.longWindow(), 7);
    check.due("season", x.season(), 5);
    check.due("setMemory", x.setMemory(9), 6);
    check.due("setLimit", x.setLimit(9), 100);
    PriceIrons busy = Check.busy();
    check.due("one object by itself", new PriceIrons().digest() == busy.digest(), false);
    check.same("others change it", PriceIrons::new, () -> {
      PriceIrons y = new PriceIrons();
      Check.busy();
      return y;
    });
  }

  private static void withoutDays() {
    check.sentence("without days");
    PriceIrons x = Check.busy();
    check.due("dropOldest of all", x.dropOldest(7), 0);
    check.due("days", x.days(), 0);
    check.due("creases", x.creases(), 0);
    check.due("crossings", x.crossings(), 0);
    check.due("greatestFall", x.greatestFall(), 0);
    check.due("greatestFallByPairs", x.greatestFallByPairs(), 0);
    check.due("longestRise", x.longestRise(), 0);
    check.due("smoothShare", x.smoothShare() == 1.0, true);
    check.due("pressAll", x.pressAll(), 0);
    check.due("keep", x.keep(), 0);
    check.due("restore", x.restore(), 0);
    check.illegalState(x, "dropOldest", () -> x.dropOldest(1));
    for (int each = 0; each < 4; each++) {
      int part = each;
      check.illegalState(x, "seasonIndex " + part, () -> x.seasonIndex(part));
      check.illegalState(x, "forecast " + part, () -> x.forecast(part));
      check.illegalState(x, "error " + part, () -> x.error(part));
    }
    check.illegalState(x, "bestMethod", () -> x.bestMethod());
    check.illegalState(x, "crossingWith", () -> x.crossingWith(5));
    check.due("the settings stay: short", x.shortWindow(), 2);
    check.due("the settings stay: season", x.season(), 4);
    check.due("addPrice", x.addPrice(9), 0);
  }

  private static void answersOfChanges() {
    check.sentence("Returns the number of the day, the price before, how many days are left ..");
    PriceIrons x = new PriceIrons();
    check.due("addPrice", x.addPrice(9999), 0);
    check.due("setPrice", x.setPrice(0, 1), 9999);
    check.due("setPrice again", x.setPrice(0, 9999), 1);
    check.due("addPrice more", x.addPrice(1), 1);
    check.due("press: its price then", Check.iron(9999, 9999, 1).press(2), 9999);
    check.due("press down", Check.iron(1, 1, 9999).press(2), 1);
    check.due("dropOldest", x.dropOldest(1), 1);
    check.due("dropOldest of the last", x.dropOldest(1), 0);
    check.due("setWindows: the previous long one", x.setWindows(10, 11), 7);
    check.due("setWindows again", x.setWindows(1, 2), 11);
    check.due("setMemory", x.setMemory(9), 6);
    check.due("setMemory again", x.setMemory(0), 9);
    check.due("setLimit", x.setLimit(9999), 100);
    check.due("setLimit again", x.setLimit(0), 9999);
    check.due("setSeason", x.setSeason(7), 5);
    check.due("setSeason again", x.setSeason(2), 7);
  }

  private static void allCallsOfAnObject() {
    check.sentence("An object is used for at most 512 calls");
    PriceIrons x = Check.rising(60);
    for (int call = 61; call < 512; call++) {
      check.due("the call " + call, x.setPrice(59, call), call == 61 ? 600 : call - 1);
    }
    check.due("the last call", x.undo(), 5);
  }
}
