import java.util.function.Supplier;

/** "Undo, the snapshot" and promises 18 to 21: each boundary that they name. */
final class UndoEdgesTest {
  /** A call that is marked "undoable", which an iron of Check.busy() does not refuse. */
  private static final class Change {
    final String name;
    final Check.Use use;

    Change(String name, Check.Use use) {
      this.name = name;
      this.use = use;
    }
  }

  private static final Change[] CHANGES = {
    new Change("addPrice", x -> x.addPrice(123)),
    new Change("setPrice", x -> x.setPrice(0, 77)),
    new Change("dropOldest", x -> x.dropOldest(2)),
    new Change("press", x -> x.press(2)),
    new Change("pressAll", x -> x.pressAll()),
    new Change("setWindows", x -> x.setWindows(4, 9)),
    new Change("setMemory", x -> x.setMemory(1)),
    new Change("setLimit", x -> x.setLimit(1)),
    new Change("setSeason", x -> x.setSeason(7)),
    new Change("work", UndoEdgesTest::workAnew),
    new Change("restore", x -> x.restore())
  };

  private static final Check check = new Check("UndoEdgesTest");

  public static void main(String[] args) {
    eachSavesOne();
    eachIsUndone();
    eachDropsTheOldest();
    alsoIfItChangesNothing();
    noneIsSavedByOthers();
    refusedCallsSaveNone();
    atMostSix();
    oldestIsDroppedFirst();
    sixAgainAndAgain();
    withoutASavedState();
    latestStopIsUndone();
    whatUndoLeaves();
    withoutASnapshot();
    inPlaceOfTheOneBefore();
    snapshotOfNoDays();
    restoreBringsBackAll();
    latestStopIsRestored();
    whatRestoreLeaves();
    snapshotStays();
    check.finish();
  }

  private static int workAnew(PriceIrons x) {
    x.clearBuffer();
    return Check.work(x, "m5;l6;w3:8;p9;x59;a");
  }

  /** Busy, but with fewer saved states. */
  private static PriceIrons busyWith(int saved) {
    PriceIrons x = Check.busy();
    while (x.savedStates() > saved) {
      x.undo();
    }
    return x;
  }

  private static void eachSavesOne() {
    check.sentence("Each method that is marked \"undoable\" .. saves the state from before it");
    for (Change change : CHANGES) {
      for (int saved = 0; saved <= 6; saved++) {
        PriceIrons x = busyWith(saved);
        check.due(change.name + " goes", Check.thrownBy(x, change.use) == null, true);
        check.due(change.name + " with " + saved, x.savedStates(), Math.min(6, saved + 1));
      }
    }
  }

  /** The text is cleared in both, as work clears it, and undo does not bring it back. */
  private static void eachIsUndone() {
    check.sentence("Restores the latest saved state, and drops it");
    for (Change change : CHANGES) {
      for (int each = 0; each < 6; each++) {
        int saved = each;
        check.same(change.name + " is not undone, with " + saved, () -> cleared(busyWith(saved)),
            () -> {
              PriceIrons x = busyWith(saved);
              change.use.of(x);
              check.due(change.name + ": states that are left", x.undo(), saved);
              return cleared(x);
            });
      }
    }
  }

  private static PriceIrons cleared(PriceIrons x) {
    x.clearBuffer();
    return x;
  }

  private static void eachDropsTheOldest() {
    check.sentence("At most 6 states are saved; the oldest one is dropped first");
    for (Change change : CHANGES) {
      PriceIrons x = new PriceIrons();
      Check.work(x, "p50,40,900,30");
      x.keep();
      for (int limit = 11; limit <= 17; limit++) {
        x.setLimit(limit);
      }
      change.use.of(x);
      for (int left = 5; left >= 0; left--) {
        check.due(change.name + ": left", x.undo(), left);
      }
      check.illegalState(x, change.name + ": the seventh", () -> x.undo());
      check.due(change.name + ": the oldest that is left", x.setLimit(0), 12);
    }
  }

  private static void saves(String name, Supplier<PriceIrons> made, Check.Use use) {
    PriceIrons x = made.get();
    int saved = x.savedStates();
    use.of(x);
    check.due(name, x.savedStates(), saved + 1);
    check.same(name + " is more than one state", made, () -> {
      PriceIrons y = made.get();
      use.of(y);
      y.undo();
      return y;
    });
  }

  private static void alsoIfItChangesNothing() {
    check.sentence("saves the state from before it (also if it changes nothing)");
    saves("setPrice", () -> Check.iron(5, 6), x -> x.setPrice(1, 6));
    saves("pressAll", () -> Check.iron(5, 6), x -> x.pressAll());
    saves("pressAll without days", () -> new PriceIrons(), x -> x.pressAll());
    saves("setWindows", () -> new PriceIrons(), x -> x.setWindows(3, 7));
    saves("setMemory", () -> new PriceIrons(), x -> x.setMemory(6));
    saves("setLimit", () -> new PriceIrons(), x -> x.setLimit(100));
    saves("setSeason", () -> new PriceIrons(), x -> x.setSeason(5));
    saves("work that stops at once", () -> new PriceIrons(), x -> Check.work(x, "x0"));
    saves("work that presses nothing", () -> new PriceIrons(), x -> Check.work(x, "a"));
    Supplier<PriceIrons> kept = () -> {
      PriceIrons x = Check.iron(5, 6);
      x.keep();
      return x;
    };
    saves("restore", kept, x -> x.restore());
    saves("keep and restore", kept, x -> x.keep() + x.restore());
  }

  private static void noneIsSavedByOthers() {
    check.sentence("marked \"undoable\": the others are not");
    Check.Use[] others = {
      x -> x.append('9'), x -> x.clearBuffer(), x -> x.firstError(), x -> x.hasStopped() ? 1 : 0,
      x -> x.stoppedPart(), x -> x.whyStopped(), x -> x.keep(), x -> x.savedStates(),
      x -> x.days(), x -> x.priceOf(0), x -> x.shortWindow(), x -> x.longWindow(),
      x -> x.mean(0, 1), x -> x.meanBySums(0, 1), x -> x.weightedMean(0), x -> x.smoothed(0),
      x -> x.smoothedBack(0), x -> x.median(0), x -> x.isCrease(0) ? 1 : 0, x -> x.creases(),
      x -> x.high(0), x -> x.highByCandidates(0), x -> x.crossing(0), x -> x.crossings(),
      x -> x.pieces(0), x -> x.worth(0), x -> x.greatestFall(), x -> x.greatestFallByPairs(),
      x -> x.longestRise(), x -> x.season(), x -> x.seasonIndex(0), x -> x.barePrice(0),
      x -> x.forecast(0), x -> x.error(0), x -> x.bestMethod(), x -> x.crossingWith(5),
      x -> (long) x.smoothShare(), x -> x.digest()
    };
    for (int place = 0; place < others.length; place++) {
      for (int saved = 4; saved <= 6; saved++) {
        PriceIrons x = busyWith(saved);
        check.due("the other " + place + " goes", Check.thrownBy(x, others[place]) == null, true);
        check.due("the other " + place + " with " + saved, x.savedStates(), saved);
      }
      Check.Use look = others[place];
      if (place >= 2 && place != 6) {
        check.same("the look " + place + " changes something", Check::busy, () -> {
          PriceIrons x = Check.busy();
          look.of(x);
          return x;
        });
      }
    }
  }

  private static void refusedCallsSaveNone() {
    check.sentence("and does not throw an exception");
    Check.Use[] refused = {
      x -> x.addPrice(0), x -> x.setPrice(9, 5), x -> x.setPrice(0, 0), x -> x.dropOldest(61),
      x -> x.dropOldest(60), x -> x.press(0), x -> x.press(9), x -> x.setWindows(5, 5),
      x -> x.setMemory(10), x -> x.setLimit(-1), x -> x.setSeason(8), x -> x.work()
    };
    for (int place = 0; place < refused.length; place++) {
      for (int saved = 0; saved <= 6; saved += 3) {
        PriceIrons x = busyWith(saved);
        check.due("refused " + place, Check.thrownBy(x, refused[place]) != null, true);
        check.due("refused " + place + " with " + saved, x.savedStates(), saved);
      }
    }
    PriceIrons none = Check.iron(5);
    check.due("restore without a snapshot", Check.thrownBy(none, x -> x.restore()) != null, true);
    check.due("restore saves none", none.savedStates(), 1);
  }

  private static void atMostSix() {
    check.sentence("At most 6 states are saved");
    PriceIrons x = new PriceIrons();
    for (int calls = 1; calls <= 12; calls++) {
      x.pressAll();
      check.due("behind " + calls, x.savedStates(), Math.min(calls, 6));
    }
    for (int left = 5; left >= 0; left--) {
      check.due("undo", x.undo(), left);
      check.due("savedStates", x.savedStates(), left);
    }
    check.illegalState(x, "the seventh undo", () -> x.undo());
  }

  private static void oldestIsDroppedFirst() {
    check.sentence("the oldest one is dropped first");
    for (int calls = 1; calls <= 20; calls++) {
      PriceIrons x = new PriceIrons();
      for (int call = 1; call <= calls; call++) {
        x.setLimit(call);
      }
      int undos = Math.min(6, calls);
      for (int undo = 1; undo <= undos; undo++) {
        x.undo();
      }
      int due = calls == undos ? 100 : calls - undos;
      check.due("all undone of " + calls, x.setLimit(0), due);
    }
  }

  /** The saved states come round again and again, with one, two, .. six of them in use. */
  private static void sixAgainAndAgain() {
    check.sentence("At most 6 states are saved: round and round");
    for (int undos = 1; undos <= 6; undos++) {
      PriceIrons x = new PriceIrons();
      int[] behind = new int[400];
      int length = 0;
      int calls = 0;
      for (int round = 1; calls < 400; round++) {
        for (int call = 0; call <= undos; call++) {
          int limit = 10 * round + call;
          x.setLimit(limit);
          behind[length] = limit;
          length++;
          calls++;
        }
        for (int undo = 0; undo < undos; undo++) {
          x.undo();
          length--;
          calls++;
        }
        if (round % 5 == 0) {
          check.due("limit in round " + round, x.setLimit(1), behind[length - 1]);
          x.undo();
          calls += 2;
        }
      }
      check.due("states at the end, undoing " + undos, x.savedStates() <= 6, true);
    }
  }

  private static void withoutASavedState() {
    check.sentence("undo throws IllegalStateException if there is none");
    PriceIrons x = new PriceIrons();
    check.illegalState(x, "new", () -> x.undo());
    x.append('a');
    x.keep();
    check.illegalState(x, "behind calls that save none", () -> x.undo());
    x.work();
    check.due("one", x.undo(), 0);
    check.illegalState(x, "again", () -> x.undo());
  }

  private static void latestStopIsUndone() {
    check.sentence("all, also the latest stop and its reason: undo");
    PriceIrons x = Check.iron(5);
    Check.work(x, "x9");
    Check.work(x, "m1;w2:2");
    Check.work(x, "a");
    check.due("none", x.hasStopped(), false);
    x.undo();
    check.due("part", x.stoppedPart(), 1);
    check.due("why", x.whyStopped(), 4);
    x.undo();
    check.due("part before", x.stoppedPart(), 0);
    check.due("why before", x.whyStopped(), 2);
    x.undo();
    check.due("none before", x.hasStopped(), false);
    check.illegalState(x, "part of none", () -> x.stoppedPart());
    check.illegalState(x, "why of none", () -> x.whyStopped());
  }

  private static void whatUndoLeaves() {
    check.sentence("but the buffer, the saved states and the snapshot");
    PriceIrons x = Check.iron(5);
    x.keep();
    Check.type(x, "ab");
    x.addPrice(6);
    Check.type(x, "c");
    x.keep();
    check.due("one is left", x.undo(), 1);
    check.due("the buffer stays", x.clearBuffer(), 3);
    x.undo();
    check.due("the buffer stays cleared", x.clearBuffer(), 0);
    check.due("the snapshot stays", x.restore(), 2);
    Check.work(x, "p7");
    x.undo();
    check.due("a text does not come back", x.clearBuffer(), 0);
  }

  private static void withoutASnapshot() {
    check.sentence("restore throws IllegalStateException if there is no snapshot");
    PriceIrons x = new PriceIrons();
    check.illegalState(x, "new", () -> x.restore());
    x.addPrice(5);
    x.undo();
    check.illegalState(x, "behind an undo", () -> x.restore());
    check.due("keep", x.keep(), 0);
    check.due("restore", x.restore(), 0);
  }

  private static void inPlaceOfTheOneBefore() {
    check.sentence("Takes a snapshot, in place of the one before");
    PriceIrons x = Check.iron(5);
    check.due("one day", x.keep(), 1);
    x.setPrice(0, 6);
    x.setMemory(2);
    check.due("one day too", x.keep(), 1);
    x.setPrice(0, 7);
    x.setMemory(3);
    x.restore();
    check.due("price", x.priceOf(0), 6);
    check.due("memory", x.setMemory(4), 2);
    PriceIrons full = Check.full();
    check.due("60 days", full.keep(), 60);
    full.dropOldest(60);
    check.due("60 days then", full.restore(), 60);
    check.due("the last one", full.priceOf(59), 600);
  }

  private static void snapshotOfNoDays() {
    check.sentence("Returns the number of days then: none");
    PriceIrons x = new PriceIrons();
    check.due("keep", x.keep(), 0);
    x.addPrice(5);
    x.addPrice(6);
    check.due("restore", x.restore(), 0);
    check.outOfBounds(x, "day 0", () -> x.priceOf(0));
    check.due("the first again", x.addPrice(7), 0);
    x.undo();
    check.due("undo of the restore", x.undo(), 2);
    check.due("two days", x.days(), 2);
  }

  private static void restoreBringsBackAll() {
    check.sentence("Restores the state of the snapshot, which stays");
    PriceIrons x = Check.busy();
    check.due("days", x.restore(), 3);
    check.due("price 0", x.priceOf(0), 50);
    check.due("price 1", x.priceOf(1), 40);
    check.due("price 2", x.priceOf(2), 900);
    check.due("short", x.shortWindow(), 3);
    check.due("long", x.longWindow(), 7);
    check.due("season", x.season(), 5);
    check.due("memory", x.setMemory(0), 3);
    check.due("limit", x.setLimit(0), 70);
  }

  private static void latestStopIsRestored() {
    check.sentence("all, also the latest stop and its reason: restore");
    PriceIrons x = Check.busy();
    check.due("part ahead of it", x.stoppedPart(), 2);
    check.due("why ahead of it", x.whyStopped(), 2);
    x.restore();
    check.due("part", x.stoppedPart(), 1);
    check.due("why", x.whyStopped(), 3);
    x.undo();
    check.due("part behind an undo", x.stoppedPart(), 2);
    PriceIrons y = new PriceIrons();
    y.keep();
    Check.work(y, "x0");
    y.restore();
    check.due("a snapshot without a stop", y.hasStopped(), false);
    check.illegalState(y, "its part", () -> y.stoppedPart());
    check.illegalState(y, "its reason", () -> y.whyStopped());
  }

  private static void whatRestoreLeaves() {
    check.sentence("(a snapshot has the same): the buffer and the saved states stay");
    PriceIrons x = new PriceIrons();
    x.keep();
    x.addPrice(5);
    Check.type(x, "abc");
    x.restore();
    check.due("one more state", x.savedStates(), 2);
    check.due("the buffer stays", x.clearBuffer(), 3);
    x.undo();
    check.due("undone", x.priceOf(0), 5);
    check.due("the state before is there still", x.undo(), 0);
    check.due("no days", x.days(), 0);
  }

  private static void snapshotStays() {
    check.sentence("the snapshot, which stays");
    PriceIrons x = Check.iron(5, 6);
    x.keep();
    for (int round = 0; round < 10; round++) {
      x.setPrice(0, 70 + round);
      x.dropOldest(1);
      check.due("round " + round, x.restore(), 2);
      check.due("price in round " + round, x.priceOf(0), 5);
    }
    for (int each = 0; each < 6; each++) {
      x.undo();
    }
    check.due("behind all undos", x.restore(), 2);
    x.setPrice(0, 99);
    check.due("it is none of the state's own", x.restore(), 2);
    check.due("price", x.priceOf(0), 5);
  }
}
