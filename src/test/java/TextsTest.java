/** Promises 11 to 17: the buffer, its syntax, and works as a text. */
final class TextsTest {
  private static final Check check = new Check("TextsTest");

  public static void main(String[] args) {
    append();
    clearBuffer();
    firstErrorOfNumbers();
    firstErrorOfParts();
    work();
    workIsOneCall();
    workRefuses();
    hasStopped();
    stoppedPart();
    whyStopped();
    check.finish();
  }

  /** Promise 11. */
  private static void append() {
    PriceIrons x = new PriceIrons();
    check.illegalArgument(x, "32", () -> x.append(32));
    check.illegalArgument(x, "127", () -> x.append(127));
    check.illegalArgument(x, "-1", () -> x.append(-1));
    check.due("33", x.append(33), 1);
    check.due("126", x.append(126), 2);
    for (int length = 3; length <= 60; length++) {
      check.due("append", x.append('a'), length);
    }
    check.illegalState(x, "the 61st", () -> x.append('a'));
    check.illegalArgument(x, "a wrong 61st", () -> x.append(127));
    check.due("not undoable", x.savedStates(), 0);
  }

  /** Promise 12. */
  private static void clearBuffer() {
    PriceIrons x = new PriceIrons();
    check.due("empty", x.clearBuffer(), 0);
    Check.type(x, "p1,2");
    check.due("four", x.clearBuffer(), 4);
    check.due("then empty", x.clearBuffer(), 0);
    check.due("append from 1", x.append('m'), 1);
    check.due("the old text is gone", x.firstError(), 1);
    check.due("not undoable", x.savedStates(), 0);
    Check.type(x, "1");
    x.addPrice(5);
    x.undo();
    check.due("undo leaves the buffer", x.clearBuffer(), 2);
  }

  private static void error(String text, int due) {
    PriceIrons x = new PriceIrons();
    Check.type(x, text);
    check.due("firstError of " + text, x.firstError(), due);
  }

  private static void noError(String text) {
    error(text, text.length());
  }

  /** Promise 13: numbers. */
  private static void firstErrorOfNumbers() {
    noError("");
    noError("p1");
    noError("p9999");
    error("p99990", 5);
    error("p0", 1);
    error("p1,0", 3);
    error("p1,10000", 7);
    noError("p1,9999,1000,100");
    noError("m0");
    noError("m9");
    error("m10", 2);
    error("m00", 2);
    noError("l0");
    noError("l9999");
    error("l00", 2);
    error("l01", 2);
    error("l10000", 5);
    noError("x0");
    noError("x9");
    noError("x10");
    noError("x59");
    error("x60", 2);
    error("x00", 2);
    error("x05", 2);
    error("x590", 3);
    noError("w1");
    noError("w10");
    error("w0", 1);
    error("w11", 2);
    error("w20", 2);
    error("w100", 3);
    noError("w3:2");
    noError("w3:1");
    noError("w3:19");
    noError("w3:20");
    error("w3:21", 4);
    error("w3:30", 4);
    error("w3:0", 3);
    error("w3:200", 5);
    error("w3:1;", 4);
    noError("w10:9");
    noError("w5:5");
  }

  /** Promise 13: parts, and what stands between. */
  private static void firstErrorOfParts() {
    for (int code = 33; code <= 126; code++) {
      boolean begins = "pwmlxa".indexOf(code) >= 0;
      error("" + (char) code, begins ? 1 : 0);
      error("a;" + (char) code, begins ? 3 : 2);
      error("a" + (char) code, code == ';' ? 2 : 1);
      error("m5" + (char) code, code == ';' ? 3 : 2);
      error("p5" + (char) code, ";,0123456789".indexOf(code) >= 0 ? 3 : 2);
      error("w3" + (char) code, code == ':' ? 3 : 2);
      error("w3:7" + (char) code, code == ';' ? 5 : 4);
    }
    noError("p1;w3:7;m5;l100;x0;a");
    noError("p1,2,3;");
    noError("a;a;a;a;a;a;a;a;a;a;a;a;a;a;a;a;a;a;a;a;a;a;a;a;a;a;a;a;a;a;");
    error("p1,;", 3);
    error("p,", 1);
    error("p;", 1);
    error("m;", 1);
    error("l,", 1);
    error("x:", 1);
    error("w:", 1);
    error("w3;", 2);
    error("w3,", 2);
    error("w3:;", 3);
    error("w3:7:", 4);
    error("w3:7,", 4);
    error("p1:", 2);
    error("m1,", 2);
    error("a;;", 2);
    error("P1", 0);
    error("~p1", 0);
    error("ap1", 1);
    error("p1p", 2);
    error("m1;q;~", 3);
  }

  /** Promise 14: what it does. */
  private static void work() {
    PriceIrons x = Check.iron(70);
    check.due("done", Check.work(x, "p100,9999,1;w1:20;m0;l5"), 4);
    check.due("days", x.days(), 4);
    check.due("behind the last day", x.priceOf(0), 70);
    check.due("price 1", x.priceOf(1), 100);
    check.due("price 2", x.priceOf(2), 9999);
    check.due("price 3", x.priceOf(3), 1);
    check.due("short", x.shortWindow(), 1);
    check.due("long", x.longWindow(), 20);
    check.due("memory", x.setMemory(6), 0);
    check.due("limit", x.setLimit(100), 5);
    check.due("the buffer is cleared", x.clearBuffer(), 0);
    check.due("w3:7", Check.work(x, "w10:11"), 1);
    check.due("long of two digits", x.longWindow(), 11);
    check.due("short of two digits", x.shortWindow(), 10);
    check.due("press", Check.work(x, "w3:7;x2"), 2);
    check.due("pressed", x.priceOf(2), 100);
    check.due("press all", Check.work(x, "p100,900,100;a"), 2);
    check.due("pressed 5", x.priceOf(5), 100);
    check.due("x of two digits", Check.work(x, "p100,100,100,100;p800;x11"), 3);
    check.due("pressed 11", x.priceOf(11), 100);
    PriceIrons y = new PriceIrons();
    check.due("30 parts", Check.work(y, "a;a;a;a;a;a;a;a;a;a;a;a;a;a;a;a;a;a;a;a;a;a;a;a;a;a;a;a;a;a"),
        30);
    check.due("29 prices", Check.work(y, "p1,2,3,4,5,6,7,8,9,1,2,3,4,5,6,7,8,9,1,2,3,4,5,6,7,8,9,1,2"),
        1);
    check.due("days", y.days(), 29);
  }

  /** Promise 14: undoable, as one call, also if nothing is done. */
  private static void workIsOneCall() {
    PriceIrons x = Check.iron(70);
    Check.work(x, "p1,2;m3;w2:5");
    check.due("saved once", x.savedStates(), 2);
    check.due("undo", x.undo(), 1);
    check.due("days", x.days(), 1);
    check.due("long", x.longWindow(), 7);
    check.due("memory", x.setMemory(6), 6);
    check.due("nothing done", Check.work(x, "x5;p1"), 0);
    check.due("nothing changed", x.days(), 1);
    check.due("saved all the same", x.savedStates(), 3);
    check.due("stopped", x.hasStopped(), true);
    x.undo();
    check.due("the stop is undone", x.hasStopped(), false);
    check.due("the parts ahead stay done", Check.work(x, "p8;x9;p9"), 1);
    check.due("days then", x.days(), 2);
  }

  /** Promise 14: the buffer stays, if it is not complete works. */
  private static void workRefuses() {
    String[] wrong = {"", "p", "p1,", "p1;", "w", "w3", "w3:", "w3:1", "m", "l", "x", "a;", "q",
        "a;p1;q", "p1,2x"};
    for (String text : wrong) {
      PriceIrons x = new PriceIrons();
      Check.type(x, text);
      check.illegalArgument(x, "work of " + text, () -> x.work());
      check.due("not undoable then", x.savedStates(), 0);
      check.due("the buffer stays", x.clearBuffer(), text.length());
    }
  }

  /** Promise 15. */
  private static void hasStopped() {
    PriceIrons x = new PriceIrons();
    check.due("without a work", x.hasStopped(), false);
    Check.work(x, "a");
    check.due("done whole", x.hasStopped(), false);
    Check.work(x, "a;x0");
    check.due("stopped at the last part", x.hasStopped(), true);
    Check.type(x, "q");
    check.illegalArgument(x, "wrong", () -> x.work());
    check.due("still", x.hasStopped(), true);
    x.clearBuffer();
    x.addPrice(5);
    check.due("another call", x.hasStopped(), true);
    Check.work(x, "a");
    check.due("no more", x.hasStopped(), false);
    x.undo();
    check.due("undone", x.hasStopped(), true);
    x.keep();
    Check.work(x, "a");
    x.restore();
    check.due("the snapshot has it", x.hasStopped(), true);
  }

  /** Promise 16. */
  private static void stoppedPart() {
    PriceIrons x = new PriceIrons();
    check.illegalState(x, "without a work", () -> x.stoppedPart());
    Check.work(x, "x0");
    check.due("the first", x.stoppedPart(), 0);
    Check.work(x, "a;m1;l2;x0;p1");
    check.due("the fourth", x.stoppedPart(), 3);
    Check.work(x, "a;m1");
    check.illegalState(x, "did not stop", () -> x.stoppedPart());
    x.undo();
    check.due("undone", x.stoppedPart(), 3);
    Check.work(x, "a;a;a;a;a;a;a;a;a;a;a;a;a;a;a;a;a;a;a;a;a;a;a;a;a;a;a;a;x9");
    check.due("the last of many", x.stoppedPart(), 28);
  }

  /** Promise 17. */
  private static void whyStopped() {
    PriceIrons x = Check.even(58, 100);
    check.illegalState(x, "without a work", () -> x.whyStopped());
    Check.work(x, "p1,2,3");
    check.due("too many prices", x.whyStopped(), 1);
    check.due("none of the part came", x.days(), 58);
    Check.work(x, "x58");
    check.due("no such day", x.whyStopped(), 2);
    Check.work(x, "x57");
    check.due("no crease", x.whyStopped(), 3);
    Check.work(x, "w5:5");
    check.due("windows as great", x.whyStopped(), 4);
    Check.work(x, "w5:4");
    check.due("windows falling", x.whyStopped(), 4);
    check.due("the windows stay", x.shortWindow(), 3);
    check.due("two more", Check.work(x, "p5,6"), 1);
    check.illegalState(x, "did not stop", () -> x.whyStopped());
    check.due("days", x.days(), 60);
    Check.work(x, "p1");
    check.due("full", x.whyStopped(), 1);
    Check.work(x, "x59;x59");
    check.due("no crease 2", x.whyStopped(), 3);
  }
}
