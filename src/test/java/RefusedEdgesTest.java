import java.util.List;
import java.util.function.Supplier;

/**
 * "Exceptions": a refused call changes nothing that can be found out, not even a saved state or the
 * snapshot; of several exceptions the one that is named first in the throws clause is thrown. Each
 * "Throws" row of the promises 1 to 51 stands here.
 */
final class RefusedEdgesTest {
  private static final Class<IndexOutOfBoundsException> BOUNDS = IndexOutOfBoundsException.class;
  private static final Class<IllegalArgumentException> ARGUMENT = IllegalArgumentException.class;
  private static final Class<IllegalStateException> STATE = IllegalStateException.class;
  private static final List<Supplier<PriceIrons>> ALL =
      List.of(PriceIrons::new, Check::busy, Check::full);

  private static final Check check = new Check("RefusedEdgesTest");

  public static void main(String[] args) {
    check.sentence("A call that throws an exception changes nothing");
    prices();
    settings();
    texts();
    stops();
    undos();
    looks();
    seasons();
    forecasts();
    check.sentence("the one that is named first in the throws clause is thrown");
    severalForPrices();
    severalForTexts();
    severalForLooks();
    severalForForecasts();
    check.finish();
  }

  /** It is refused by a new iron, a busy one, and a full one. */
  private static void always(String call, Class<? extends RuntimeException> kind, Check.Use use) {
    for (Supplier<PriceIrons> made : ALL) {
      check.refused(made, call, kind, use);
    }
  }

  private static void prices() {
    always("addPrice 0", ARGUMENT, x -> x.addPrice(0));
    always("addPrice 10000", ARGUMENT, x -> x.addPrice(10000));
    check.refused(Check::full, "addPrice of a full one", STATE, x -> x.addPrice(1));
    always("setPrice -1", BOUNDS, x -> x.setPrice(-1, 5));
    always("setPrice of the next day", BOUNDS, x -> x.setPrice(x.days(), 5));
    check.refused(Check::busy, "setPrice to 0", ARGUMENT, x -> x.setPrice(0, 0));
    check.refused(Check::full, "setPrice to 10000", ARGUMENT, x -> x.setPrice(59, 10000));
    always("dropOldest 0", ARGUMENT, x -> x.dropOldest(0));
    always("dropOldest 61", ARGUMENT, x -> x.dropOldest(61));
    check.refused(PriceIrons::new, "dropOldest of none", STATE, x -> x.dropOldest(1));
    check.refused(Check::busy, "dropOldest of one more", STATE, x -> x.dropOldest(x.days() + 1));
    always("press -1", BOUNDS, x -> x.press(-1));
    always("press of the next day", BOUNDS, x -> x.press(x.days()));
    check.refused(Check::busy, "press of day 0", STATE, x -> x.press(0));
    check.refused(Check::full, "press of day 59", STATE, x -> x.press(59));
  }

  private static void settings() {
    always("setWindows 0, 7", ARGUMENT, x -> x.setWindows(0, 7));
    always("setWindows 11, 12", ARGUMENT, x -> x.setWindows(11, 12));
    always("setWindows 1, 1", ARGUMENT, x -> x.setWindows(1, 1));
    always("setWindows 3, 21", ARGUMENT, x -> x.setWindows(3, 21));
    always("setWindows 2, 2", ARGUMENT, x -> x.setWindows(2, 2));
    always("setWindows 10, 9", ARGUMENT, x -> x.setWindows(10, 9));
    always("setMemory -1", ARGUMENT, x -> x.setMemory(-1));
    always("setMemory 10", ARGUMENT, x -> x.setMemory(10));
    always("setLimit -1", ARGUMENT, x -> x.setLimit(-1));
    always("setLimit 10000", ARGUMENT, x -> x.setLimit(10000));
    always("setSeason 1", ARGUMENT, x -> x.setSeason(1));
    always("setSeason 8", ARGUMENT, x -> x.setSeason(8));
  }

  private static void texts() {
    always("append 32", ARGUMENT, x -> x.append(32));
    always("append 127", ARGUMENT, x -> x.append(127));
    check.refused(Check::full, "append to a full one", STATE, x -> x.append(33));
    always("work without works", ARGUMENT, x -> x.work());
  }

  private static void stops() {
    check.refused(PriceIrons::new, "stoppedPart", STATE, x -> x.stoppedPart());
    check.refused(PriceIrons::new, "whyStopped", STATE, x -> x.whyStopped());
    check.refused(Check::full, "stoppedPart of a full one", STATE, x -> x.stoppedPart());
    check.refused(Check::full, "whyStopped of a full one", STATE, x -> x.whyStopped());
  }

  private static void undos() {
    check.refused(PriceIrons::new, "undo", STATE, x -> x.undo());
    check.refused(PriceIrons::new, "restore", STATE, x -> x.restore());
    check.refused(Check::full, "restore of a full one", STATE, x -> x.restore());
    Supplier<PriceIrons> undone = () -> {
      PriceIrons x = Check.busy();
      while (x.savedStates() > 0) {
        x.undo();
      }
      return x;
    };
    check.refused(undone, "undo behind all", STATE, x -> x.undo());
  }

  private static void looks() {
    ofADay("priceOf", (x, day) -> x.priceOf(day));
    ofADay("mean", (x, day) -> x.mean(day, 1));
    ofADay("meanBySums", (x, day) -> x.meanBySums(day, 1));
    ofADay("weightedMean", (x, day) -> x.weightedMean(day));
    ofADay("smoothed", (x, day) -> x.smoothed(day));
    ofADay("smoothedBack", (x, day) -> x.smoothedBack(day));
    ofADay("median", (x, day) -> x.median(day));
    ofADay("isCrease", (x, day) -> x.isCrease(day) ? 1 : 0);
    ofADay("high", (x, day) -> x.high(day));
    ofADay("highByCandidates", (x, day) -> x.highByCandidates(day));
    ofADay("crossing", (x, day) -> x.crossing(day));
    ofADay("pieces", (x, day) -> x.pieces(day));
    ofADay("worth", (x, day) -> x.worth(day));
    ofADay("barePrice", (x, day) -> x.barePrice(day));
    int[] windows = {0, 21, -1};
    for (int window : windows) {
      check.refused(Check::busy, "mean of " + window, ARGUMENT, x -> x.mean(0, window));
      check.refused(Check::full, "sums of " + window, ARGUMENT, x -> x.meanBySums(59, window));
    }
  }

  private interface OfADay {
    long told(PriceIrons x, int day);
  }

  private static void ofADay(String call, OfADay asked) {
    always(call + " -1", BOUNDS, x -> asked.told(x, -1));
    always(call + " of the next day", BOUNDS, x -> asked.told(x, x.days()));
    always(call + " of the least day", BOUNDS, x -> asked.told(x, Integer.MIN_VALUE));
    always(call + " of the greatest day", BOUNDS, x -> asked.told(x, Integer.MAX_VALUE));
  }

  private static void seasons() {
    always("seasonIndex -1", BOUNDS, x -> x.seasonIndex(-1));
    always("seasonIndex of the season", BOUNDS, x -> x.seasonIndex(x.season()));
    check.refused(PriceIrons::new, "seasonIndex of none", STATE, x -> x.seasonIndex(0));
    check.refused(() -> Check.iron(5, 6, 7), "seasonIndex 3 of 3", STATE, x -> x.seasonIndex(3));
  }

  private static void forecasts() {
    always("forecast -1", ARGUMENT, x -> x.forecast(-1));
    always("forecast 4", ARGUMENT, x -> x.forecast(4));
    check.refused(PriceIrons::new, "forecast of none", STATE, x -> x.forecast(3));
    always("error -1", ARGUMENT, x -> x.error(-1));
    always("error 4", ARGUMENT, x -> x.error(4));
    check.refused(PriceIrons::new, "error of none", STATE, x -> x.error(0));
    check.refused(() -> Check.iron(5), "error of one", STATE, x -> x.error(3));
    check.refused(PriceIrons::new, "bestMethod of none", STATE, x -> x.bestMethod());
    check.refused(() -> Check.iron(5), "bestMethod of one", STATE, x -> x.bestMethod());
    always("crossingWith 0", ARGUMENT, x -> x.crossingWith(0));
    always("crossingWith 10000", ARGUMENT, x -> x.crossingWith(10000));
    check.refused(PriceIrons::new, "crossingWith of none", STATE, x -> x.crossingWith(5));
    check.refused(Check::full, "crossingWith of 60", STATE, x -> x.crossingWith(5));
  }

  private static void severalForPrices() {
    check.refused(Check::full, "addPrice: no room, and no price", ARGUMENT, x -> x.addPrice(0));
    always("setPrice: no such day, and no price", BOUNDS, x -> x.setPrice(x.days(), 10000));
    always("setPrice: day -1, and no price", BOUNDS, x -> x.setPrice(-1, 0));
    check.refused(PriceIrons::new, "dropOldest: there are fewer, and too many", ARGUMENT,
        x -> x.dropOldest(61));
    check.refused(PriceIrons::new, "press: no such day, so no crease", BOUNDS, x -> x.press(0));
  }

  private static void severalForTexts() {
    check.refused(Check::full, "append: no room, and no code", ARGUMENT, x -> x.append(127));
    check.refused(Check::full, "append: no room, and code 32", ARGUMENT, x -> x.append(32));
  }

  private static void severalForLooks() {
    always("mean: no such day, and window 0", BOUNDS, x -> x.mean(x.days(), 0));
    always("mean: no such day, and window 21", BOUNDS, x -> x.mean(-1, 21));
    always("meanBySums: no such day, and window 0", BOUNDS, x -> x.meanBySums(x.days(), 0));
    always("meanBySums: no such day, and window 21", BOUNDS, x -> x.meanBySums(-1, 21));
    check.refused(PriceIrons::new, "seasonIndex: no such part, so no days", BOUNDS,
        x -> x.seasonIndex(5));
  }

  private static void severalForForecasts() {
    check.refused(PriceIrons::new, "forecast: no prices, and no method", ARGUMENT,
        x -> x.forecast(4));
    check.refused(PriceIrons::new, "error: no prices, and no method", ARGUMENT, x -> x.error(-1));
    check.refused(() -> Check.iron(5), "error: one price, and no method", ARGUMENT,
        x -> x.error(4));
    check.refused(PriceIrons::new, "crossingWith: no prices, and no price", ARGUMENT,
        x -> x.crossingWith(0));
    check.refused(Check::full, "crossingWith: 60 prices, and no price", ARGUMENT,
        x -> x.crossingWith(10000));
  }
}
