import java.util.ArrayList;
import java.util.List;

/** "Input text" and promises 11 to 17: each boundary of the buffer, its syntax, and of works. */
final class TextEdgesTest {
  private static final Check check = new Check("TextEdgesTest");

  public static void main(String[] args) {
    mostCharacters();
    emptyBuffer();
    leastAndGreatestCode();
    lengthThatItHad();
    everyNumber();
    noLeadingZeros();
    firstAndLastCharacter();
    ofAnyLength();
    everyShortText();
    oneOrMoreParts();
    oneOrMorePrices();
    behindTheLastDay();
    fullBufferOfWorks();
    refusedWorkKeepsTheBuffer();
    exactlySixtyPrices();
    noneOfThePartCame();
    lastDayAndTheNextOne();
    noDayAtAll();
    pressedOnceOnly();
    windowsAsGreat();
    upToTheFirstPart();
    stopOfTheLastPart();
    withoutAStop();
    latestWork();
    check.finish();
  }

  private static void mostCharacters() {
    check.sentence("The buffer has at most 60 characters");
    PriceIrons x = new PriceIrons();
    Check.type(x, "a".repeat(59));
    check.due("the 60th", x.append('b'), 60);
    check.illegalState(x, "the 61st", () -> x.append('c'));
    check.due("the length", x.clearBuffer(), 60);
    check.due("room again", x.append('a'), 1);
  }

  private static void emptyBuffer() {
    check.sentence("an empty buffer");
    PriceIrons x = new PriceIrons();
    check.due("firstError", x.firstError(), 0);
    check.illegalArgument(x, "work", () -> x.work());
    check.due("clearBuffer", x.clearBuffer(), 0);
    check.due("append", x.append('a'), 1);
    x.work();
    check.due("firstError behind a work", x.firstError(), 0);
    check.illegalArgument(x, "work behind a work", () -> x.work());
    check.due("clearBuffer behind a work", x.clearBuffer(), 0);
  }

  private static void leastAndGreatestCode() {
    check.sentence("the character code, 33 to 126");
    PriceIrons x = new PriceIrons();
    check.illegalArgument(x, "32", () -> x.append(32));
    check.due("33", x.append(33), 1);
    check.due("126", x.append(126), 2);
    check.illegalArgument(x, "127", () -> x.append(127));
    check.illegalArgument(x, "the code of p, and 256 times 256", () -> x.append('p' + 65536));
    check.due("the buffer", x.clearBuffer(), 2);
  }

  private static void lengthThatItHad() {
    check.sentence("Clears the buffer. Returns the length that it had");
    for (int length = 0; length <= 60; length += 20) {
      PriceIrons x = new PriceIrons();
      Check.type(x, "z".repeat(length));
      check.due("it had", x.clearBuffer(), length);
      check.due("it has", x.clearBuffer(), 0);
      check.due("firstError", x.firstError(), 0);
    }
  }

  /** Where the first error of the beginning and the digits is, told by all numbers in range. */
  private static int firstErrorDue(String begin, String digits, int least, int most) {
    for (int length = 1; length <= digits.length(); length++) {
      boolean begun = false;
      for (int number = least; number <= most && !begun; number++) {
        begun = Integer.toString(number).startsWith(digits.substring(0, length));
      }
      if (!begun) {
        return begin.length() + length - 1;
      }
    }
    return begin.length() + digits.length();
  }

  private static void numbers(String begin, String end, int least, int most, List<String> all) {
    for (String digits : all) {
      String text = begin + digits;
      PriceIrons x = new PriceIrons();
      Check.type(x, text);
      int due = firstErrorDue(begin, digits, least, most);
      check.due("firstError of " + text, x.firstError(), due);
      boolean inRange = due == text.length() && Integer.parseInt(digits) >= least;
      Check.type(x, end);
      check.due("firstError of " + text + end, x.firstError(),
          inRange ? text.length() + end.length() : due);
      boolean works = Check.thrownBy(x, y -> y.work()) == null;
      check.due(text + end + " is works", works, inRange);
    }
  }

  /** Each text of digits up to a length. */
  private static List<String> digits(int most) {
    List<String> all = new ArrayList<>();
    int from = 0;
    all.add("");
    for (int length = 1; length <= most; length++) {
      int to = all.size();
      for (; from < to; from++) {
        for (char digit = '0'; digit <= '9'; digit++) {
          all.add(all.get(from) + digit);
        }
      }
    }
    all.remove(0);
    return all;
  }

  /** Around the bounds of a price or a limit. */
  private static List<String> someDigits() {
    List<String> all = digits(2);
    String[] more = {"000", "001", "010", "100", "101", "999", "0000", "0001", "0999", "1000",
        "1001", "9998", "9999", "00000", "00001", "09999", "10000", "10001", "99990", "99999",
        "100000", "4294967297", "99999999999999999999"};
    all.addAll(List.of(more));
    return all;
  }

  private static void everyNumber() {
    check.sentence("prices, 1 to 9999");
    numbers("p", "", 1, 9999, someDigits());
    numbers("p7,", "", 1, 9999, someDigits());
    check.sentence("a short window, 1 to 10");
    numbers("w", ":20", 1, 10, digits(3));
    check.sentence("a long one, 2 to 20");
    numbers("w1:", "", 2, 20, digits(3));
    numbers("w10:", "", 2, 20, digits(3));
    check.sentence("a memory, 0 to 9");
    numbers("m", "", 0, 9, digits(3));
    check.sentence("a limit, 0 to 9999");
    numbers("l", "", 0, 9999, someDigits());
    check.sentence("a day, 0 to 59");
    numbers("x", "", 0, 59, digits(3));
    numbers("a;x", ";a", 0, 59, digits(2));
  }

  private static void error(String text, int due) {
    PriceIrons x = new PriceIrons();
    Check.type(x, text);
    check.due("firstError of " + text, x.firstError(), due);
  }

  private static void noLeadingZeros() {
    check.sentence("Numbers have no leading zeros");
    error("p01", 1);
    error("p1,02", 3);
    error("w01:5", 1);
    error("w1:02", 3);
    error("m00", 2);
    error("m05", 2);
    error("l00", 2);
    error("l0100", 2);
    error("x00", 2);
    error("x09", 2);
    error("m0", 2);
    error("l0", 2);
    error("x0", 2);
    error("p100", 4);
    error("l1000", 5);
    error("x10", 3);
    error("w10:10", 6);
  }

  private static void firstAndLastCharacter() {
    check.sentence("the index of the first character that is a syntax error");
    error("z", 0);
    error("zp1", 0);
    error("z".repeat(60), 0);
    error("m1;".repeat(19) + "m1z", 59);
    error("m1;".repeat(19) + "mz;", 58);
    error("m1;".repeat(19) + "m1,", 59);
    check.sentence("the length of the buffer if there is none");
    error("", 0);
    error("p", 1);
    error("m1;".repeat(19) + "m1", 59);
    error("m1;".repeat(20), 60);
  }

  /** What they begin would end far behind the 60th character. */
  private static void ofAnyLength() {
    check.sentence("if no works as a text, of any length, begin with the characters before it");
    String[] texts = {"p" + "1,".repeat(29) + "1", "p" + "9999,".repeat(11) + "999,",
        "m1;".repeat(20), "a;".repeat(29) + "aa", "a;".repeat(29) + "a;", "a;".repeat(29) + "pp",
        "a;".repeat(29) + "p1", "a;".repeat(28) + "w10:", "a;".repeat(29) + "w1"};
    int[] due = {60, 60, 60, 59, 60, 59, 60, 60, 60};
    for (int place = 0; place < texts.length; place++) {
      check.due("the length of " + texts[place], texts[place].length(), 60);
      error(texts[place], due[place]);
    }
    PriceIrons x = new PriceIrons();
    Check.type(x, "m1;".repeat(20));
    check.illegalArgument(x, "it begins works, but is none", () -> x.work());
  }

  /** All texts of up to five of these signs but those that go on behind an error, and the Model. */
  private static void everyShortText() {
    check.sentence("The buffer is read from left to right");
    String signs = "pwmlxa01269,:;q";
    List<String> texts = new ArrayList<>(List.of(""));
    for (int place = 0; place < texts.size(); place++) {
      String text = texts.get(place);
      PriceIrons x = new PriceIrons();
      Model model = new Model();
      for (int index = 0; index < text.length(); index++) {
        x.append(text.charAt(index));
        model.append(text.charAt(index));
      }
      int due = model.firstError();
      check.due("firstError of " + text, x.firstError(), due);
      for (int sign = 0; due == text.length() && due < 5 && sign < signs.length(); sign++) {
        texts.add(text + signs.charAt(sign));
      }
    }
  }

  private static void worksAre(String text, boolean due) {
    PriceIrons x = new PriceIrons();
    Check.type(x, text);
    if (due) {
      check.due("work of " + text, Check.thrownBy(x, y -> y.work()) == null, true);
    } else {
      check.illegalArgument(x, "work of " + text, () -> x.work());
    }
  }

  private static void oneOrMoreParts() {
    check.sentence("Works as a text are one or more parts with \";\" between them");
    worksAre("", false);
    worksAre(";", false);
    worksAre("a", true);
    worksAre("a;", false);
    worksAre(";a", false);
    worksAre("a;a", true);
    worksAre("a;;a", false);
    worksAre("a;a;", false);
    worksAre("aa", false);
    worksAre("a;p1;w1:2;m0;l0;x0", true);
    worksAre("A", false);
  }

  private static void oneOrMorePrices() {
    check.sentence("\"p\" and one or more prices .. with \",\" between them");
    worksAre("p", false);
    worksAre("p1", true);
    worksAre("p1,", false);
    worksAre("p,1", false);
    worksAre("p1,2", true);
    worksAre("p1,,2", false);
    worksAre("p1,2,", false);
    worksAre("p;a", false);
    worksAre("p1,;a", false);
    worksAre("m", false);
    worksAre("m1,2", false);
    worksAre("l", false);
    worksAre("x", false);
    worksAre("w", false);
    worksAre("w1", false);
    worksAre("w1:", false);
    worksAre("w10", false);
    worksAre("w10:1", false);
    worksAre("w1:2:3", false);
    worksAre("w1;a", false);
    worksAre("w1:;a", false);
    worksAre("w1:1;a", false);
    worksAre("a1", false);
  }

  private static void behindTheLastDay() {
    check.sentence("they come behind the last day");
    PriceIrons x = new PriceIrons();
    Check.work(x, "p1,9999;p2");
    Check.work(x, "p3");
    int[] due = {1, 9999, 2, 3};
    for (int day = 0; day < due.length; day++) {
      check.due("day " + day, x.priceOf(day), due[day]);
    }
    x.dropOldest(3);
    Check.work(x, "p4");
    check.due("behind a drop", x.priceOf(1), 4);
    check.due("days", x.days(), 2);
  }

  private static void fullBufferOfWorks() {
    check.sentence("The buffer has at most 60 characters: all of them works");
    PriceIrons x = new PriceIrons();
    Check.type(x, "p" + "5,".repeat(29) + "7");
    check.due("one part", x.work(), 1);
    check.due("30 days", x.days(), 30);
    check.due("the last one", x.priceOf(29), 7);
    check.due("cleared", x.clearBuffer(), 0);
    Check.type(x, "a;".repeat(28) + "l777");
    check.due("29 parts", x.work(), 29);
    check.due("the last part", x.setLimit(0), 777);
    Check.type(x, "a;".repeat(29) + "x");
    check.illegalArgument(x, "30 parts, the last one not whole", () -> x.work());
    x.clearBuffer();
    check.due("30 parts", Check.work(x, "a;".repeat(29) + "a"), 30);
  }

  private static void refusedWorkKeepsTheBuffer() {
    check.sentence("if the buffer is not complete works as a text (the buffer stays)");
    PriceIrons x = Check.iron(5);
    Check.type(x, "p6;p");
    check.illegalArgument(x, "work", () -> x.work());
    check.due("no part is done", x.days(), 1);
    check.due("nothing is saved", x.savedStates(), 1);
    check.due("it can go on", x.append('7'), 5);
    check.due("then it is works", x.work(), 2);
    check.due("days", x.days(), 3);
  }

  private static void exactlySixtyPrices() {
    check.sentence("1: there would have been more than 60 prices");
    PriceIrons x = Check.even(57, 5);
    check.due("the 60th", Check.work(x, "p1,2,3"), 1);
    check.due("60 is no stop", x.hasStopped(), false);
    check.due("the 61st", Check.work(x, "p4"), 0);
    check.due("why", x.whyStopped(), 1);
    check.due("days", x.days(), 60);
    PriceIrons y = Check.even(58, 5);
    check.due("60 in two parts", Check.work(y, "p1;p2;a"), 3);
    PriceIrons z = Check.even(30, 5);
    check.due("60 by 30", Check.work(z, "p" + "1,".repeat(29) + "1"), 1);
    PriceIrons more = Check.even(31, 5);
    check.due("61 by 30", Check.work(more, "p" + "1,".repeat(29) + "1"), 0);
    check.due("why by 30", more.whyStopped(), 1);
  }

  private static void noneOfThePartCame() {
    check.sentence("(none of the part came)");
    PriceIrons x = Check.even(58, 5);
    check.due("three", Check.work(x, "m2;p1,2,3;p4"), 1);
    check.due("days", x.days(), 58);
    check.due("part", x.stoppedPart(), 1);
    check.due("the part ahead stays", x.setMemory(6), 2);
    check.outOfBounds(x, "day 58", () -> x.priceOf(58));
  }

  private static void lastDayAndTheNextOne() {
    check.sentence("2: there was no such day");
    PriceIrons x = Check.iron(5, 5, 500);
    check.due("day 3 of 3", Check.work(x, "x3"), 0);
    check.due("why", x.whyStopped(), 2);
    check.due("day 2 of 3", Check.work(x, "x2"), 1);
    check.due("no stop", x.hasStopped(), false);
    check.due("pressed", x.priceOf(2), 5);
    check.due("a day that comes by the same text", Check.work(x, "p5,900;x4;x5"), 2);
    check.due("it is pressed", x.priceOf(4), 5);
    check.due("why at day 5", x.whyStopped(), 2);
    PriceIrons full = Check.even(59, 5);
    check.due("day 59", Check.work(full, "x59;a"), 0);
    check.due("why at day 59", full.whyStopped(), 2);
    full.addPrice(800);
    check.due("day 59 of 60", Check.work(full, "x59"), 1);
  }

  private static void noDayAtAll() {
    check.sentence("there was no such day: without days");
    PriceIrons x = new PriceIrons();
    check.due("x0", Check.work(x, "x0"), 0);
    check.due("why x0", x.whyStopped(), 2);
    check.due("x59", Check.work(x, "x59"), 0);
    check.due("why x59", x.whyStopped(), 2);
    check.due("a", Check.work(x, "a"), 1);
    check.due("a does not stop", x.hasStopped(), false);
  }

  private static void pressedOnceOnly() {
    check.sentence("3: it was no crease");
    PriceIrons x = Check.iron(100, 100, 200, 100);
    check.due("100 above", Check.work(x, "x2"), 0);
    check.due("why", x.whyStopped(), 3);
    x.setPrice(2, 201);
    check.due("101 above, twice", Check.work(x, "x2;x2"), 1);
    check.due("why twice", x.whyStopped(), 3);
    check.due("which", x.stoppedPart(), 1);
    check.due("the limit of the same text", Check.work(x, "p201;l101;x4"), 2);
    check.due("why 101", x.whyStopped(), 3);
    check.due("a lesser limit", Check.work(x, "l100;x4"), 2);
  }

  private static void windowsAsGreat() {
    check.sentence("4: the short window was not less than the long one");
    PriceIrons x = new PriceIrons();
    String[] texts = {"w2:2", "w3:2", "w10:10", "w10:9", "w10:2"};
    for (String text : texts) {
      check.due(text, Check.work(x, text), 0);
      check.due("why " + text, x.whyStopped(), 4);
    }
    check.due("w9:10", Check.work(x, "w9:10"), 1);
    check.due("w10:9 behind it", Check.work(x, "w10:9"), 0);
    check.due("short", x.shortWindow(), 9);
    check.due("long", x.longWindow(), 10);
  }

  private static void upToTheFirstPart() {
    check.sentence("up to the first part that is not possible, and clears the buffer");
    PriceIrons x = new PriceIrons();
    check.due("the first", Check.work(x, "x0;p1;m1"), 0);
    check.due("none is done", x.days(), 0);
    check.due("cleared", x.clearBuffer(), 0);
    check.due("the second", Check.work(x, "p1;x5;p2;x6"), 1);
    check.due("one is done", x.days(), 1);
    check.due("the first stop is told", x.stoppedPart(), 1);
    check.due("cleared too", x.clearBuffer(), 0);
    check.due("memory", x.setMemory(1), 6);
  }

  private static void stopOfTheLastPart() {
    check.sentence("stopped ahead of the end of its text: at the last part");
    PriceIrons x = new PriceIrons();
    check.due("two of three", Check.work(x, "m1;m2;w2:2"), 2);
    check.due("stopped", x.hasStopped(), true);
    check.due("part", x.stoppedPart(), 2);
    check.due("the 30th", Check.work(x, "a;".repeat(28) + "x9"), 28);
    check.due("part 28", x.stoppedPart(), 28);
  }

  private static void withoutAStop() {
    check.sentence("Throws IllegalStateException if it did not stop");
    PriceIrons x = Check.iron(5);
    check.due("without a call", x.hasStopped(), false);
    check.illegalState(x, "stoppedPart without a call", () -> x.stoppedPart());
    check.illegalState(x, "whyStopped without a call", () -> x.whyStopped());
    Check.type(x, "q");
    check.illegalArgument(x, "a call that throws", () -> x.work());
    check.illegalState(x, "stoppedPart behind one that throws", () -> x.stoppedPart());
    check.illegalState(x, "whyStopped behind one that throws", () -> x.whyStopped());
    x.clearBuffer();
    Check.work(x, "a");
    check.due("done to the end", x.hasStopped(), false);
    check.illegalState(x, "stoppedPart of one to the end", () -> x.stoppedPart());
    check.illegalState(x, "whyStopped of one to the end", () -> x.whyStopped());
  }

  private static void latestWork() {
    check.sentence("the latest call of work() that did not throw an exception");
    PriceIrons x = Check.iron(5);
    Check.work(x, "m1;x9");
    Check.type(x, "q");
    check.illegalArgument(x, "a later one that throws", () -> x.work());
    check.due("part of the one before", x.stoppedPart(), 1);
    check.due("reason of the one before", x.whyStopped(), 2);
    x.clearBuffer();
    x.addPrice(6);
    x.pressAll();
    check.due("other calls leave it", x.whyStopped(), 2);
    Check.work(x, "w2:2");
    check.due("part of the later one", x.stoppedPart(), 0);
    check.due("reason of the later one", x.whyStopped(), 4);
    Check.work(x, "a");
    check.due("the latest did not stop", x.hasStopped(), false);
  }
}
