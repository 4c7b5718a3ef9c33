/** Counts the calls whose answer is not the one that is due, and prints them. */
final class Check {
  interface Call {
    long answer();
  }

  private final String test;
  private int wrong = 0;
  private int calls = 0;

  Check(String test) {
    this.test = test;
  }

  void due(String call, long answer, long due) {
    calls++;
    if (answer != due) {
      wrong(call + " answered " + answer + ", due is " + due);
    }
  }

  void due(String call, boolean answer, boolean due) {
    due(call, answer ? 1L : 0L, due ? 1L : 0L);
  }

  /** The call must throw just this exception, and change nothing that can be seen. */
  void refused(PriceIrons x, String call, Class<? extends RuntimeException> kind, Call made) {
    calls++;
    long before = x.digest();
    Class<?> thrown = null;
    try {
      made.answer();
    } catch (RuntimeException e) {
      thrown = e.getClass();
    }
    if (thrown != kind) {
      wrong(call + " threw " + thrown + ", due is " + kind);
    }
    if (x.digest() != before) {
      wrong(call + " threw, but changed the state");
    }
  }

  void outOfBounds(PriceIrons x, String call, Call made) {
    refused(x, call, IndexOutOfBoundsException.class, made);
  }

  void illegalArgument(PriceIrons x, String call, Call made) {
    refused(x, call, IllegalArgumentException.class, made);
  }

  void illegalState(PriceIrons x, String call, Call made) {
    refused(x, call, IllegalStateException.class, made);
  }

  void wrong(String text) {
    wrong++;
    if (wrong <= 20) {
      System.out.println(test + ": " + text);
    }
  }

  void finish() {
    if (wrong > 0 || calls == 0) {
      System.out.println(test + ": " + wrong + " wrong of " + calls);
      System.exit(1);
    }
  }

  static PriceIrons iron(int... prices) {
    PriceIrons x = new PriceIrons();
    for (int price : prices) {
      x.addPrice(price);
    }
    return x;
  }

  /** An iron with so many days of one price. */
  static PriceIrons even(int days, int price) {
    PriceIrons x = new PriceIrons();
    for (int day = 0; day < days; day++) {
      x.addPrice(price);
    }
    return x;
  }

  static void type(PriceIrons x, String text) {
    for (int index = 0; index < text.length(); index++) {
      x.append(text.charAt(index));
    }
  }

  static int work(PriceIrons x, String text) {
    type(x, text);
    return x.work();
  }
}
