import java.util.ArrayList;
import java.util.List;
import java.util.function.Supplier;

/** Counts the calls whose answer is not the one that is due, and prints them. */
final class Check {
  interface Call {
    long answer();
  }

  /** A call of whatever iron it is given. */
  interface Use {
    long of(PriceIrons x);
  }

  private final String test;
  private String sentence = "";
  private int wrong = 0;
  private int calls = 0;

  Check(String test) {
    this.test = test;
  }

  /** The words of the document that are tested from here on; they stand in each wrong answer. */
  void sentence(String words) {
    sentence = "[" + words + "] ";
  }

  void due(String call, long answer, long due) {
    calls++;
    if (answer != due) {
      wrong(call + " answered " + answer + ", due is " + due);
    }
  }

  void due(String call, boolean answer, boolean due) {
    due(call, answer ? 1L : 0L, due ? 1L : 0L);
  }

  /** The call must throw just this exception, and change nothing that can be seen. */
  void refused(PriceIrons x, String call, Class<? extends RuntimeException> kind, Call made) {
    calls++;
    long before = x.digest();
    Class<?> thrown = null;
    try {
      made.answer();
    } catch (RuntimeException e) {
      thrown = e.getClass();
    }
    if (thrown != kind) {
      wrong(call + " threw " + thrown + ", due is " + kind);
    }
    if (x.digest() != before) {
      wrong(call + " threw, but changed the state");
    }
  }

  void outOfBounds(PriceIrons x, String call, Call made) {
    refused(x, call, IndexOutOfBoundsException.class, made);
  }

  void illegalArgument(PriceIrons x, String call, Call made) {
    refused(x, call, IllegalArgumentException.class, made);
  }

  void illegalState(PriceIrons x, String call, Call made) {
    refused(x, call, IllegalStateException.class, made);
  }

  /**
   * The call must throw just this exception, and change nothing: not what the digest tells, nor the
   * memory, the limit, any saved state, or the snapshot.
   */
  void refused(Supplier<PriceIrons> made, String call, Class<? extends RuntimeException> kind,
      Use use) {
    calls++;
    Class<?> thrown = thrownBy(made.get(), use);
    if (thrown != kind) {
      wrong(call + " threw " + thrown + ", due is " + kind);
    }
    same(call + " threw, but changed the state", made, () -> {
      PriceIrons x = made.get();
      thrownBy(x, use);
      return x;
    });
  }

  /** Nothing that can be found out of the one is otherwise with the other. */
  void same(String text, Supplier<PriceIrons> one, Supplier<PriceIrons> other) {
    calls++;
    if (!told(one).equals(told(other))) {
      wrong(text);
    }
  }

  static Class<?> thrownBy(PriceIrons x, Use use) {
    try {
      use.of(x);
    } catch (RuntimeException e) {
      return e.getClass();
    }
    return null;
  }

  /**
   * All that can be found out of an iron: as it stands, in each saved state, and in the snapshot.
   * Each is told of an iron of its own, as the telling changes it.
   */
  static List<Long> told(Supplier<PriceIrons> made) {
    List<Long> told = new ArrayList<>();
    int saved = made.get().savedStates();
    for (int undos = 0; undos <= saved; undos++) {
      PriceIrons x = made.get();
      for (int each = 0; each < undos; each++) {
        x.undo();
      }
      tell(x, told);
    }
    PriceIrons x = made.get();
    if (thrownBy(x, y -> y.restore()) == null) {
      tell(x, told);
    }
    return told;
  }

  /** The memory and the limit are not in the digest; they are told by changing them. */
  private static void tell(PriceIrons x, List<Long> told) {
    told.add(x.digest());
    told.add((long) x.setMemory(0));
    told.add((long) x.setLimit(0));
  }

  void wrong(String text) {
    wrong++;
    if (wrong <= 20) {
      System.out.println(test + ": " + sentence + text);
    }
  }

  void finish() {
    if (wrong > 0 || calls == 0) {
      System.out.println(test + ": " + wrong + " wrong of " + calls);
      System.exit(1);
    }
  }

  static PriceIrons iron(int... prices) {
    PriceIrons x = new PriceIrons();
    for (int price : prices) {
      x.addPrice(price);
    }
    return x;
  }

  /** An iron with so many days of one price. */
  static PriceIrons even(int days, int price) {
    PriceIrons x = new PriceIrons();
    for (int day = 0; day < days; day++) {
      x.addPrice(price);
    }
    return x;
  }

  /** An iron with so many days; each price is greater by 10 than the one ahead. */
  static PriceIrons rising(int days) {
    PriceIrons x = new PriceIrons();
    for (int day = 0; day < days; day++) {
      x.addPrice(10 * (day + 1));
    }
    return x;
  }

  /** An iron with so many days; each price is less by 10 than the one ahead, and the last is 10. */
  static PriceIrons falling(int days) {
    PriceIrons x = new PriceIrons();
    for (int day = 0; day < days; day++) {
      x.addPrice(10 * (days - day));
    }
    return x;
  }

  /** An iron with something of everything: six saved states, a stop, another one kept, a text. */
  static PriceIrons busy() {
    PriceIrons x = Check.iron(50, 40, 900);
    Check.work(x, "m3;x0");
    x.setLimit(70);
    x.keep();
    Check.work(x, "p20,900,30;w2:5;x59");
    x.setSeason(4);
    x.setMemory(8);
    x.setLimit(90);
    x.addPrice(35);
    Check.type(x, "p1,");
    return x;
  }

  /** An iron that has no room: 60 prices, and a buffer of 60 characters. */
  static PriceIrons full() {
    PriceIrons x = Check.rising(60);
    Check.type(x, "m1;".repeat(20));
    return x;
  }

  static void type(PriceIrons x, String text) {
    for (int index = 0; index < text.length(); index++) {
      x.append(text.charAt(index));
    }
  }

  static int work(PriceIrons x, String text) {
    type(x, text);
    return x.work();
  }
}
