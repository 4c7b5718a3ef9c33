import java.lang.reflect.Constructor;
import java.lang.reflect.Field;
import java.lang.reflect.Method;
import java.lang.reflect.Modifier;
import java.util.Set;
import java.util.TreeSet;

/** The public face is that of the document, and nothing else can be seen from outside. */
final class FaceTest {
  private static final String BOUNDS = " IndexOutOfBoundsException";
  private static final String ARGUMENT = " IllegalArgumentException";
  private static final String STATE = " IllegalStateException";
  private static final String[] FACE = {
    "int addPrice 1" + ARGUMENT + STATE,
    "int setPrice 2" + BOUNDS + ARGUMENT,
    "int dropOldest 1" + ARGUMENT + STATE,
    "int press 1" + BOUNDS + STATE,
    "int pressAll 0",
    "int setWindows 2" + ARGUMENT,
    "int setMemory 1" + ARGUMENT,
    "int setLimit 1" + ARGUMENT,
    "int setSeason 1" + ARGUMENT,
    "int append 1" + ARGUMENT + STATE,
    "int clearBuffer 0",
    "int firstError 0",
    "int work 0" + ARGUMENT,
    "boolean hasStopped 0",
    "int stoppedPart 0" + STATE,
    "int whyStopped 0" + STATE,
    "int undo 0" + STATE,
    "int keep 0",
    "int restore 0" + STATE,
    "int savedStates 0",
    "int days 0",
    "int priceOf 1" + BOUNDS,
    "int shortWindow 0",
    "int longWindow 0",
    "int mean 2" + BOUNDS + ARGUMENT,
    "int meanBySums 2" + BOUNDS + ARGUMENT,
    "int weightedMean 1" + BOUNDS,
    "int smoothed 1" + BOUNDS,
    "int smoothedBack 1" + BOUNDS,
    "int median 1" + BOUNDS,
    "boolean isCrease 1" + BOUNDS,
    "int creases 0",
    "int high 1" + BOUNDS,
    "int highByCandidates 1" + BOUNDS,
    "int crossing 1" + BOUNDS,
    "int crossings 0",
    "int pieces 1" + BOUNDS,
    "long worth 1" + BOUNDS,
    "int greatestFall 0",
    "int greatestFallByPairs 0",
    "int longestRise 0",
    "int season 0",
    "int seasonIndex 1" + BOUNDS + STATE,
    "long barePrice 1" + BOUNDS,
    "int forecast 1" + ARGUMENT + STATE,
    "int error 1" + ARGUMENT + STATE,
    "int bestMethod 0" + STATE,
    "int crossingWith 1" + ARGUMENT + STATE,
    "double smoothShare 0",
    "long digest 0"
  };

  private static final Check check = new Check("FaceTest");

  public static void main(String[] args) {
    int modifiers = PriceIrons.class.getModifiers();
    check.due("public", Modifier.isPublic(modifiers), true);
    check.due("final", Modifier.isFinal(modifiers), true);
    methods();
    constructors();
    fields();
    classesInside();
    check.finish();
  }

  private static void methods() {
    Set<String> due = new TreeSet<>(Set.of(FACE));
    Set<String> publicNames = new TreeSet<>();
    for (Method method : PriceIrons.class.getDeclaredMethods()) {
      if (Modifier.isPublic(method.getModifiers())) {
        publicNames.add(method.getName());
        if (!due.remove(told(method)) || Modifier.isStatic(method.getModifiers())) {
          check.wrong(told(method) + " is not in the document");
        }
      }
    }
    if (!due.isEmpty()) {
      check.wrong("missing: " + due);
    }
    onlyPrivate(PriceIrons.class, publicNames);
    for (Class<?> inside : PriceIrons.class.getDeclaredClasses()) {
      onlyPrivate(inside, publicNames);
    }
  }

  private static void onlyPrivate(Class<?> kind, Set<String> publicNames) {
    for (Method method : kind.getDeclaredMethods()) {
      int modifiers = method.getModifiers();
      boolean ofFace = kind == PriceIrons.class && Modifier.isPublic(modifiers);
      if (!ofFace && !Modifier.isPrivate(modifiers)) {
        check.wrong(kind + ": " + method + " is not private");
      }
      if (!ofFace && publicNames.contains(method.getName())) {
        check.wrong(kind + ": " + method + " bears the name of a public one");
      }
    }
  }

  private static String told(Method method) {
    for (Class<?> parameter : method.getParameterTypes()) {
      check.due("a parameter is an int", parameter == int.class, true);
    }
    StringBuilder told = new StringBuilder();
    told.append(method.getReturnType()).append(' ').append(method.getName());
    told.append(' ').append(method.getParameterCount());
    for (Class<?> exception : method.getExceptionTypes()) {
      told.append(' ').append(exception.getSimpleName());
    }
    return told.toString();
  }

  private static void constructors() {
    Constructor<?>[] all = PriceIrons.class.getDeclaredConstructors();
    check.due("constructors", all.length, 1);
    check.due("public", Modifier.isPublic(all[0].getModifiers()), true);
    check.due("parameters", all[0].getParameterCount(), 0);
  }

  private static void fields() {
    for (Field field : PriceIrons.class.getDeclaredFields()) {
      int modifiers = field.getModifiers();
      check.due(field + " is private", Modifier.isPrivate(modifiers), true);
      if (Modifier.isStatic(modifiers)) {
        check.due(field + " is final", Modifier.isFinal(modifiers), true);
      }
    }
  }

  private static void classesInside() {
    Class<?>[] inside = PriceIrons.class.getDeclaredClasses();
    check.due("at most twelve classes", inside.length < 12, true);
    for (Class<?> each : inside) {
      int modifiers = each.getModifiers();
      check.due(each + " is static", Modifier.isStatic(modifiers), true);
      check.due(each + " is public", Modifier.isPublic(modifiers), false);
      check.due(each + " is protected", Modifier.isProtected(modifiers), false);
    }
  }
}
