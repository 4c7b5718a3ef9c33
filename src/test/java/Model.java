import java.math.BigInteger;
import java.util.ArrayDeque;
import java.util.ArrayList;
import java.util.Collections;
import java.util.Deque;
import java.util.List;
import java.util.regex.Matcher;
import java.util.regex.Pattern;

/**
 * The document once more, as slowly and plainly as it can be told, with the Java library: states are
 * copied whole, medians are sorted, texts are matched against a pattern. ModelTest asks it and the
 * program the same.
 */
public final class Model {
  private static final String PRICE = "[1-9][0-9]{0,3}";
  private static final String PART = "(?:p" + PRICE + "(?:," + PRICE + ")*"
      + "|w(?:10|[1-9]):(?:20|1[0-9]|[2-9])"
      + "|m[0-9]"
      + "|l(?:0|" + PRICE + ")"
      + "|x(?:[1-5][0-9]|[0-9])"
      + "|a)";
  private static final Pattern WORKS = Pattern.compile(PART + "(?:;" + PART + ")*");

  private static final class State {
    List<Integer> prices = new ArrayList<>();
    int shorter = 3;
    int longer = 7;
    int memory = 6;
    int limit = 100;
    int season = 5;
    int part = -1;
    int why = 0;

    State copy() {
      State other = new State();
      other.prices = new ArrayList<>(prices);
      other.shorter = shorter;
      other.longer = longer;
      other.memory = memory;
      other.limit = limit;
      other.season = season;
      other.part = part;
      other.why = why;
      return other;
    }
  }

  private State now = new State();
  private State snapshot = null;
  private final Deque<State> saved = new ArrayDeque<>();
  private String buffer = "";

  private static void illegal(boolean bad) {
    if (bad) {
      throw new IllegalArgumentException();
    }
  }

  private static void noState(boolean bad) {
    if (bad) {
      throw new IllegalStateException();
    }
  }

  private void needDay(int day) {
    if (day < 0 || day >= now.prices.size()) {
      throw new IndexOutOfBoundsException();
    }
  }

  private void save() {
    saved.addLast(now.copy());
    if (saved.size() > 6) {
      saved.removeFirst();
    }
  }

  public int addPrice(int price) {
    illegal(price < 1 || price > 9999);
    noState(now.prices.size() == 60);
    save();
    now.prices.add(price);
    return now.prices.size() - 1;
  }

  public int setPrice(int day, int price) {
    needDay(day);
    illegal(price < 1 || price > 9999);
    save();
    return now.prices.set(day, price);
  }

  public int dropOldest(int days) {
    illegal(days < 1 || days > 60);
    noState(now.prices.size() < days);
    save();
    now.prices = new ArrayList<>(now.prices.subList(days, now.prices.size()));
    return now.prices.size();
  }

  public int press(int day) {
    needDay(day);
    noState(!isCrease(day));
    save();
    now.prices.set(day, median(day));
    return now.prices.get(day);
  }

  private int pressEach() {
    int count = 0;
    for (int day = 0; day < now.prices.size(); day++) {
      if (isCrease(day)) {
        now.prices.set(day, median(day));
        count++;
      }
    }
    return count;
  }

  public int pressAll() {
    save();
    return pressEach();
  }

  public int setWindows(int shorter, int longer) {
    illegal(shorter < 1 || shorter > 10 || longer < 2 || longer > 20 || shorter >= longer);
    save();
    int before = now.longer;
    now.shorter = shorter;
    now.longer = longer;
    return before;
  }

  public int setMemory(int memory) {
    illegal(memory < 0 || memory > 9);
    save();
    int before = now.memory;
    now.memory = memory;
    return before;
  }

  public int setLimit(int limit) {
    illegal(limit < 0 || limit > 9999);
    save();
    int before = now.limit;
    now.limit = limit;
    return before;
  }

  public int setSeason(int days) {
    illegal(days < 2 || days > 7);
    save();
    int before = now.season;
    now.season = days;
    return before;
  }

  public int append(int code) {
    illegal(code < 33 || code > 126);
    noState(buffer.length() == 60);
    buffer += (char) code;
    return buffer.length();
  }

  public int clearBuffer() {
    int length = buffer.length();
    buffer = "";
    return length;
  }

  public int firstError() {
    for (int end = 1; end <= buffer.length(); end++) {
      Matcher matcher = WORKS.matcher(buffer.substring(0, end));
      if (!matcher.matches() && !matcher.hitEnd()) {
        return end - 1;
      }
    }
    return buffer.length();
  }

  public int work() {
    illegal(!WORKS.matcher(buffer).matches());
    save();
    String[] parts = buffer.split(";");
    buffer = "";
    now.part = -1;
    now.why = 0;
    for (int part = 0; part < parts.length; part++) {
      int why = reasonAgainst(parts[part]);
      if (why != 0) {
        now.part = part;
        now.why = why;
        return part;
      }
    }
    return parts.length;
  }

  private int reasonAgainst(String part) {
    String rest = part.substring(1);
    if (part.startsWith("p")) {
      String[] prices = rest.split(",");
      if (prices.length + now.prices.size() > 60) {
        return 1;
      }
      for (String price : prices) {
        now.prices.add(Integer.parseInt(price));
      }
    } else if (part.startsWith("x")) {
      int day = Integer.parseInt(rest);
      if (day >= now.prices.size()) {
        return 2;
      }
      if (!isCrease(day)) {
        return 3;
      }
      now.prices.set(day, median(day));
    } else if (part.startsWith("w")) {
      int shorter = Integer.parseInt(rest.split(":")[0]);
      int longer = Integer.parseInt(rest.split(":")[1]);
      if (shorter >= longer) {
        return 4;
      }
      now.shorter = shorter;
      now.longer = longer;
    } else if (part.startsWith("m")) {
      now.memory = Integer.parseInt(rest);
    } else if (part.startsWith("l")) {
      now.limit = Integer.parseInt(rest);
    } else {
      pressEach();
    }
    return 0;
  }

  public boolean hasStopped() {
    return now.part >= 0;
  }

  public int stoppedPart() {
    noState(now.part < 0);
    return now.part;
  }

  public int whyStopped() {
    noState(now.part < 0);
    return now.why;
  }

  public int undo() {
    noState(saved.isEmpty());
    now = saved.removeLast();
    return saved.size();
  }

  public int keep() {
    snapshot = now.copy();
    return now.prices.size();
  }

  public int restore() {
    noState(snapshot == null);
    save();
    now = snapshot.copy();
    return now.prices.size();
  }

  public int savedStates() {
    return saved.size();
  }

  public int days() {
    return now.prices.size();
  }

  public int priceOf(int day) {
    needDay(day);
    return now.prices.get(day);
  }

  public int shortWindow() {
    return now.shorter;
  }

  public int longWindow() {
    return now.longer;
  }

  private static List<Integer> window(List<Integer> prices, int day, int window) {
    return prices.subList(Math.max(0, day + 1 - window), day + 1);
  }

  private static long floor(long whole, long by) {
    BigInteger[] parts = BigInteger.valueOf(whole).divideAndRemainder(BigInteger.valueOf(by));
    return parts[0].longValueExact();
  }

  private static long sum(List<Integer> prices) {
    long sum = 0;
    for (int price : prices) {
      sum += price;
    }
    return sum;
  }

  private static int meanOf(List<Integer> prices) {
    return Math.toIntExact(floor(1000 * sum(prices), prices.size()));
  }

  public int mean(int day, int window) {
    needDay(day);
    illegal(window < 1 || window > 20);
    return meanOf(window(now.prices, day, window));
  }

  public int meanBySums(int day, int window) {
    return mean(day, window);
  }

  public int weightedMean(int day) {
    needDay(day);
    List<Integer> all = new ArrayList<>();
    List<Integer> window = window(now.prices, day, now.longer);
    for (int place = 0; place < window.size(); place++) {
      all.addAll(Collections.nCopies(place + 1, window.get(place)));
    }
    return meanOf(all);
  }

  private static int smooth(State state, List<Integer> prices) {
    long smooth = 1000L * prices.get(0);
    for (int price : prices.subList(1, prices.size())) {
      smooth = floor(state.memory * smooth + (10 - state.memory) * 1000L * price, 10);
    }
    return Math.toIntExact(smooth);
  }

  public int smoothed(int day) {
    needDay(day);
    return smooth(now, now.prices.subList(0, day + 1));
  }

  public int smoothedBack(int day) {
    return smoothed(day);
  }

  public int median(int day) {
    needDay(day);
    List<Integer> window = new ArrayList<>(window(now.prices, day, now.shorter));
    Collections.sort(window);
    return window.get((window.size() + 1) / 2 - 1);
  }

  public boolean isCrease(int day) {
    int middle = median(day);
    int price = now.prices.get(day);
    return price > middle + now.limit || price < middle - now.limit;
  }

  public int creases() {
    int count = 0;
    for (int day = 0; day < now.prices.size(); day++) {
      count += isCrease(day) ? 1 : 0;
    }
    return count;
  }

  public int high(int day) {
    needDay(day);
    return Collections.max(window(now.prices, day, now.longer));
  }

  public int highByCandidates(int day) {
    return high(day);
  }

  private static int crossing(State state, List<Integer> prices, int day) {
    if (day == 0) {
      return 0;
    }
    int shorter = meanOf(window(prices, day, state.shorter));
    int longer = meanOf(window(prices, day, state.longer));
    int shorterBefore = meanOf(window(prices, day - 1, state.shorter));
    int longerBefore = meanOf(window(prices, day - 1, state.longer));
    if (shorter > longer && !(shorterBefore > longerBefore)) {
      return 1;
    }
    if (shorter < longer && !(shorterBefore < longerBefore)) {
      return -1;
    }
    return 0;
  }

  public int crossing(int day) {
    needDay(day);
    return crossing(now, now.prices, day);
  }

  public int crossings() {
    int count = 0;
    for (int day = 0; day < now.prices.size(); day++) {
      count += crossing(day) == 0 ? 0 : 1;
    }
    return count;
  }

  /** The coins and the pieces behind a day; the pieces are bought one by one. */
  private long[] trade(int day) {
    needDay(day);
    long coins = 10000;
    long pieces = 0;
    for (int each = 0; each <= day; each++) {
      int price = now.prices.get(each);
      int crossing = crossing(now, now.prices, each);
      if (crossing == 1) {
        while (coins >= price && pieces < 999) {
          coins -= price;
          pieces++;
        }
      }
      if (crossing == -1) {
        coins += pieces * price;
        pieces = 0;
      }
    }
    return new long[] {coins, pieces};
  }

  public int pieces(int day) {
    return (int) trade(day)[1];
  }

  public long worth(int day) {
    long[] trade = trade(day);
    return trade[0] + trade[1] * now.prices.get(day);
  }

  public int greatestFall() {
    int fall = 0;
    for (int later = 0; later < now.prices.size(); later++) {
      for (int day = 0; day < later; day++) {
        fall = Math.max(fall, now.prices.get(day) - now.prices.get(later));
      }
    }
    return fall;
  }

  public int greatestFallByPairs() {
    return greatestFall();
  }

  public int longestRise() {
    int longest = 0;
    for (int first = 0; first < now.prices.size(); first++) {
      int last = first;
      while (last + 1 < now.prices.size() && now.prices.get(last) < now.prices.get(last + 1)) {
        last++;
      }
      longest = Math.max(longest, last - first);
    }
    return longest;
  }

  public int season() {
    return now.season;
  }

  private static List<Integer> part(State state, List<Integer> prices, int part) {
    List<Integer> ofPart = new ArrayList<>();
    for (int day = part; day < prices.size(); day += state.season) {
      ofPart.add(prices.get(day));
    }
    return ofPart;
  }

  public int seasonIndex(int part) {
    if (part < 0 || part >= now.season) {
      throw new IndexOutOfBoundsException();
    }
    List<Integer> ofPart = part(now, now.prices, part);
    noState(ofPart.isEmpty());
    return Math.toIntExact(floor(1000 * sum(ofPart) * now.prices.size(),
        ofPart.size() * sum(now.prices)));
  }

  public long barePrice(int day) {
    needDay(day);
    List<Integer> ofPart = part(now, now.prices, day % now.season);
    return floor(1000L * now.prices.get(day) * ofPart.size() * sum(now.prices),
        sum(ofPart) * now.prices.size());
  }

  private static int forecast(State state, int method, List<Integer> prices) {
    int last = prices.size() - 1;
    List<Integer> ofPart = part(state, prices, prices.size() % state.season);
    if (method == 0) {
      return meanOf(window(prices, last, state.shorter));
    }
    if (method == 2) {
      return smooth(state, prices);
    }
    if (method == 3 && !ofPart.isEmpty()) {
      return meanOf(ofPart);
    }
    return meanOf(window(prices, last, state.longer));
  }

  public int forecast(int method) {
    illegal(method < 0 || method > 3);
    noState(now.prices.isEmpty());
    return forecast(now, method, now.prices);
  }

  public int error(int method) {
    illegal(method < 0 || method > 3);
    noState(now.prices.size() < 2);
    long sum = 0;
    for (int day = 1; day < now.prices.size(); day++) {
      long forecast = forecast(now, method, now.prices.subList(0, day));
      sum += Math.abs(forecast - 1000L * now.prices.get(day));
    }
    return Math.toIntExact(floor(sum, now.prices.size() - 1));
  }

  public int bestMethod() {
    noState(now.prices.size() < 2);
    int best = 3;
    for (int method = 2; method >= 0; method--) {
      if (error(method) <= error(best)) {
        best = method;
      }
    }
    return best;
  }

  public int crossingWith(int price) {
    illegal(price < 1 || price > 9999);
    noState(now.prices.isEmpty() || now.prices.size() == 60);
    List<Integer> longer = new ArrayList<>(now.prices);
    longer.add(price);
    return crossing(now, longer, longer.size() - 1);
  }

  public double smoothShare() {
    if (now.prices.isEmpty()) {
      return 1.0;
    }
    return (double) (now.prices.size() - creases()) / now.prices.size();
  }

  public long digest() {
    List<Long> values = new ArrayList<>();
    addAll(values, days(), shortWindow(), longWindow(), season(), creases(), crossings(),
        greatestFall(), greatestFallByPairs(), longestRise(), savedStates());
    for (int day = 0; day < days(); day++) {
      addAll(values, priceOf(day), mean(day, now.shorter), meanBySums(day, now.shorter),
          mean(day, now.longer), weightedMean(day), smoothed(day), smoothedBack(day),
          median(day), isCrease(day) ? 1 : 0, high(day), highByCandidates(day), crossing(day),
          pieces(day), worth(day), barePrice(day));
    }
    for (int part = 0; part < now.season; part++) {
      if (!part(now, now.prices, part).isEmpty()) {
        addAll(values, seasonIndex(part));
      }
    }
    if (days() > 0) {
      addAll(values, forecast(0), forecast(1), forecast(2), forecast(3));
    }
    if (days() > 1) {
      addAll(values, error(0), error(1), error(2), error(3), bestMethod());
    }
    addAll(values, hasStopped() ? 1 : 0);
    if (hasStopped()) {
      addAll(values, stoppedPart(), whyStopped());
    }
    addAll(values, Double.doubleToLongBits(smoothShare()), buffer.length());
    for (char code : buffer.toCharArray()) {
      addAll(values, code);
    }
    long hash = 4523;
    for (long value : values) {
      hash = 31 * hash + value;
    }
    return hash;
  }

  private static void addAll(List<Long> values, long... more) {
    for (long value : more) {
      values.add(value);
    }
  }
}
