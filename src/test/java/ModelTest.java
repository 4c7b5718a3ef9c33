import java.lang.reflect.InvocationTargetException;
import java.lang.reflect.Method;
import java.util.ArrayList;
import java.util.List;

/**
 * Long runs of calls, asked of the program and of the Model; the runs are drawn by a generator of
 * our own, so that they are the same each time. No object gets more than 512 calls.
 */
final class ModelTest {
  private static final int RUNS = 400;
  private static final int CALLS = 512;
  private static final String[] TEXTS = {
    "a", "p1", "p9999", "p100,200", "p5,5,5,5,5", "w1:2", "w10:20", "w3:7", "w10:10", "w9:3",
    "w5:12", "w2:19", "m0", "m9", "m5", "l0", "l9999", "l50", "l5", "x0", "x5", "x10", "x59",
    "p10,1,10,1,900,1", "p9999,1,9999", "p40,41,42"
  };
  private static final String[] CHANGES = {
    "addPrice", "addPrice", "addPrice", "addPrice", "addPrice", "addPrice", "addPrice",
    "setPrice", "setPrice", "dropOldest", "press", "press", "pressAll", "setWindows",
    "setWindows", "setMemory", "setLimit", "setSeason", "undo", "undo", "keep", "restore"
  };

  private final Check check = new Check("ModelTest");
  private final List<Method> looks = new ArrayList<>();
  private long seed = 20261119;
  private PriceIrons x;
  private Model model;
  private int calls;
  private int ceiling;
  private StringBuilder run;

  public static void main(String[] args) throws Exception {
    new ModelTest().runAll();
  }

  private void runAll() throws Exception {
    for (Method method : PriceIrons.class.getDeclaredMethods()) {
      if (java.lang.reflect.Modifier.isPublic(method.getModifiers())) {
        looks.add(method);
      }
    }
    looks.sort((one, other) -> one.getName().compareTo(other.getName()));
    for (int each = 0; each < RUNS; each++) {
      runOnce(each);
    }
    check.finish();
  }

  private void runOnce(int each) throws Exception {
    x = new PriceIrons();
    model = new Model();
    calls = 0;
    run = new StringBuilder("run " + each + ":");
    int[] ceilings = {9999, 3, 20, 300, 9999};
    ceiling = ceilings[below(ceilings.length)];
    boolean fewDrops = below(3) > 0;
    while (calls < CALLS) {
      int kind = below(20);
      if (kind < 9) {
        String change = CHANGES[below(CHANGES.length)];
        if (!(fewDrops && change.equals("dropOldest") && below(4) > 0)) {
          ask(change);
        }
      } else if (kind == 9) {
        typeWorks();
      } else if (kind == 10) {
        ask(looks.get(below(looks.size())).getName());
      } else if (kind < 15) {
        String name = looks.get(below(looks.size())).getName();
        if (!name.equals("append") && !name.equals("undo") && !name.equals("dropOldest")) {
          ask(name);
        }
      } else if (kind == 15 && below(3) == 0) {
        fill();
      } else {
        ask("digest");
      }
    }
  }

  private void typeWorks() throws Exception {
    ask("clearBuffer");
    int parts = 1 + below(4);
    StringBuilder text = new StringBuilder();
    for (int part = 0; part < parts; part++) {
      if (part > 0) {
        text.append(';');
      }
      text.append(TEXTS[below(TEXTS.length)]);
    }
    if (below(4) == 0) {
      String signs = "pwmlxa0123456789,;:q~!";
      int at = below(text.length());
      char sign = signs.charAt(below(signs.length()));
      if (below(2) == 0) {
        text.setCharAt(at, sign);
      } else {
        text.insert(at, sign);
      }
    }
    for (int index = 0; index < text.length(); index++) {
      ask("append", text.charAt(index), 0);
      if (below(5) == 0) {
        ask("firstError");
      }
    }
    ask("firstError");
    if (below(6) > 0) {
      ask("work");
      ask("hasStopped");
      ask("stoppedPart");
      ask("whyStopped");
    }
  }

  /** As many prices as there is room for, or nearly. */
  private void fill() throws Exception {
    int more = below(62 - model.days());
    for (int each = 0; each < more; each++) {
      ask("addPrice", 1 + below(ceiling), 0);
    }
  }

  private void ask(String name) throws Exception {
    ask(name, argument(name, 0), argument(name, 1));
  }

  private void ask(String name, int first, int second) throws Exception {
    if (calls >= CALLS) {
      return;
    }
    calls++;
    Method call = null;
    for (Method look : looks) {
      if (look.getName().equals(name)) {
        call = look;
      }
    }
    Method same = Model.class.getMethod(name, call.getParameterTypes());
    Object[] arguments = new Object[call.getParameterCount()];
    for (int place = 0; place < arguments.length; place++) {
      arguments[place] = place == 0 ? first : second;
    }
    String answer = answer(call, x, arguments);
    String due = answer(same, model, arguments);
    run.append(' ').append(name).append(java.util.Arrays.toString(arguments)).append('=')
        .append(answer);
    check.due("same answer", 0, 0);
    if (!answer.equals(due)) {
      check.wrong(run + " but due is " + due);
    }
  }

  private static String answer(Method call, Object asked, Object[] arguments) throws Exception {
    try {
      return String.valueOf(call.invoke(asked, arguments));
    } catch (InvocationTargetException thrown) {
      return "throws." + thrown.getCause().getClass().getSimpleName();
    }
  }

  /** Mostly what is allowed, at times just outside of it, and at times far outside. */
  private int argument(String name, int place) {
    if (below(60) == 0) {
      int[] far = {Integer.MIN_VALUE, Integer.MAX_VALUE, -1, 60, 61, 10000, 0, 127, 32};
      return far[below(far.length)];
    }
    switch (name) {
      case "addPrice":
      case "crossingWith":
        return near(1, ceiling);
      case "setPrice":
        return place == 0 ? near(0, model.days() - 1) : near(1, ceiling);
      case "dropOldest":
        return below(8) == 0 ? near(1, 60) : near(1, 3);
      case "setWindows":
        return place == 0 ? near(1, 10) : near(2, 20);
      case "mean":
      case "meanBySums":
        return place == 0 ? near(0, model.days() - 1) : near(1, 20);
      case "setMemory":
        return near(0, 9);
      case "setLimit":
        return below(2) == 0 ? near(0, ceiling) : near(0, 9999);
      case "setSeason":
        return near(2, 7);
      case "seasonIndex":
        return near(0, model.season() - 1);
      case "append":
        return near(33, 126);
      case "forecast":
      case "error":
        return near(0, 3);
      default:
        return near(0, model.days() - 1);
    }
  }

  /** From one below the least to one above the most. */
  private int near(int least, int most) {
    if (most < least || below(25) == 0) {
      return below(2) == 0 ? least - 1 : most + 1;
    }
    return least + below(most - least + 1);
  }

  private int below(int bound) {
    seed = seed * 6364136223846793005L + 1442695040888963407L;
    return (int) ((seed >>> 33) % bound);
  }
}
