/**
 * The smoothing iron of prices: prices day by day, what means, creases, crossings, falls, seasons
 * and forecasts tell of them, works as texts, undo and one snapshot. The promises that are named
 * by number stand in ../shared/DOC.md.
 */
public final class PriceIrons {
  private static final int MOST_DAYS = 60;
  private static final int MOST_PRICE = 9999;
  private static final int MOST_SHORTER = 10;
  private static final int LEAST_LONGER = 2;
  private static final int MOST_LONGER = 20;
  private static final int MOST_MEMORY = 9;
  private static final int MOST_LIMIT = 9999;
  private static final int LEAST_SEASON = 2;
  private static final int MOST_SEASON = 7;
  private static final int MOST_SIGNS = 60;
  private static final int MOST_SAVED = 6;
  private static final int FIRST_COINS = 10000;
  private static final int MOST_PIECES = 999;
  private static final int METHODS = 4;
  private static final long FIRST_HASH = 4523L;

  private static final int TOO_MANY_PRICES = 1;
  private static final int NO_SUCH_DAY = 2;
  private static final int NO_CREASE = 3;
  private static final int WINDOWS_NOT_RISING = 4;

  private final State now = new State();
  /** For looks at what another price would do; nothing of it outlives a call. */
  private final State trial = new State();
  private final State snapshot = new State();
  private boolean snapshotTaken = false;
  private final History history = new History();
  private final Text text = new Text();
  private final Works works = new Works();
  private final Highs highs = new Highs();
  private final Trade trade = new Trade();

  public PriceIrons() {
  }

  // ---- prices

  public int addPrice(int price) throws IllegalArgumentException, IllegalStateException {
    requireRange(price, 1, MOST_PRICE);
    if (now.length >= MOST_DAYS) {
      throw new IllegalStateException("there is no room for another price");
    }
    history.save(now);
    now.add(price);
    return now.length - 1;
  }

  public int setPrice(int day, int price)
      throws IndexOutOfBoundsException, IllegalArgumentException {
    requireDay(day);
    requireRange(price, 1, MOST_PRICE);
    history.save(now);
    int before = now.at(day);
    now.put(day, price);
    return before;
  }

  public int dropOldest(int days) throws IllegalArgumentException, IllegalStateException {
    requireRange(days, 1, MOST_DAYS);
    if (days > now.length) {
      throw new IllegalStateException("there are fewer days");
    }
    history.save(now);
    now.drop(days);
    return now.length;
  }

  public int press(int day) throws IndexOutOfBoundsException, IllegalStateException {
    requireDay(day);
    if (!Creases.standsOut(now, day)) {
      throw new IllegalStateException("the day is no crease");
    }
    history.save(now);
    Creases.flatten(now, day);
    return now.at(day);
  }

  public int pressAll() {
    history.save(now);
    return Creases.flattenAll(now);
  }

  // ---- settings

  public int setWindows(int shorter, int longer) throws IllegalArgumentException {
    requireRange(shorter, 1, MOST_SHORTER);
    requireRange(longer, LEAST_LONGER, MOST_LONGER);
    if (shorter >= longer) {
      throw new IllegalArgumentException("the short window is not less than the long one");
    }
    history.save(now);
    int before = now.longer;
    now.shorter = shorter;
    now.longer = longer;
    return before;
  }

  public int setMemory(int memory) throws IllegalArgumentException {
    requireRange(memory, 0, MOST_MEMORY);
    history.save(now);
    int before = now.memory;
    now.memory = memory;
    return before;
  }

  public int setLimit(int limit) throws IllegalArgumentException {
    requireRange(limit, 0, MOST_LIMIT);
    history.save(now);
    int before = now.limit;
    now.limit = limit;
    return before;
  }

  public int setSeason(int days) throws IllegalArgumentException {
    requireRange(days, LEAST_SEASON, MOST_SEASON);
    history.save(now);
    int before = now.seasonDays;
    now.seasonDays = days;
    return before;
  }

  // ---- texts

  public int append(int code) throws IllegalArgumentException, IllegalStateException {
    requireRange(code, 33, 126);
    if (text.length >= MOST_SIGNS) {
      throw new IllegalStateException("the buffer is full");
    }
    text.add(code);
    return text.length;
  }

  public int clearBuffer() {
    int before = text.length;
    text.empty();
    return before;
  }

  public int firstError() {
    return text.firstRefused();
  }

  public int work() throws IllegalArgumentException {
    if (!text.isWhole()) {
      throw new IllegalArgumentException("the buffer is not complete works");
    }
    history.save(now);
    int done = works.run(now, text);
    text.empty();
    return done;
  }

  public boolean hasStopped() {
    return now.stopped;
  }

  public int stoppedPart() throws IllegalStateException {
    requireStop();
    return now.stopPart;
  }

  public int whyStopped() throws IllegalStateException {
    requireStop();
    return now.stopReason;
  }

  // ---- undo, the snapshot

  public int undo() throws IllegalStateException {
    if (history.count == 0) {
      throw new IllegalStateException("there is no saved state");
    }
    history.takeBack(now);
    return history.count;
  }

  public int keep() {
    snapshot.copyFrom(now);
    snapshotTaken = true;
    return now.length;
  }

  public int restore() throws IllegalStateException {
    if (!snapshotTaken) {
      throw new IllegalStateException("there is no snapshot");
    }
    history.save(now);
    now.copyFrom(snapshot);
    return now.length;
  }

  public int savedStates() {
    return history.count;
  }

  // ---- looks at prices and means; nothing is changed

  public int days() {
    return now.length;
  }

  public int priceOf(int day) throws IndexOutOfBoundsException {
    requireDay(day);
    return now.at(day);
  }

  public int shortWindow() {
    return now.shorter;
  }

  public int longWindow() {
    return now.longer;
  }

  public int mean(int day, int window)
      throws IndexOutOfBoundsException, IllegalArgumentException {
    requireDay(day);
    requireRange(window, 1, MOST_LONGER);
    return Means.byAdding(now, day, window);
  }

  public int meanBySums(int day, int window)
      throws IndexOutOfBoundsException, IllegalArgumentException {
    requireDay(day);
    requireRange(window, 1, MOST_LONGER);
    return Means.bySums(now, day, window);
  }

  public int weightedMean(int day) throws IndexOutOfBoundsException {
    requireDay(day);
    return Means.weighted(now, day);
  }

  public int smoothed(int day) throws IndexOutOfBoundsException {
    requireDay(day);
    return Means.smoothedForwards(now, day);
  }

  public int smoothedBack(int day) throws IndexOutOfBoundsException {
    requireDay(day);
    return Means.smoothedByRecursion(now, day, 0);
  }

  public int median(int day) throws IndexOutOfBoundsException {
    requireDay(day);
    return Creases.middle(now, day);
  }

  public boolean isCrease(int day) throws IndexOutOfBoundsException {
    requireDay(day);
    return Creases.standsOut(now, day);
  }

  public int creases() {
    return Creases.number(now);
  }

  // ---- highs, crossings, trade

  public int high(int day) throws IndexOutOfBoundsException {
    requireDay(day);
    return Highs.byLooking(now, day);
  }

  public int highByCandidates(int day) throws IndexOutOfBoundsException {
    requireDay(day);
    return highs.byRow(now, day);
  }

  public int crossing(int day) throws IndexOutOfBoundsException {
    requireDay(day);
    return Trade.crossingAt(now, day);
  }

  public int crossings() {
    return Trade.numberOfCrossings(now);
  }

  public int pieces(int day) throws IndexOutOfBoundsException {
    requireDay(day);
    trade.runTo(now, day);
    return trade.held;
  }

  public long worth(int day) throws IndexOutOfBoundsException {
    requireDay(day);
    trade.runTo(now, day);
    return trade.valueAt(now, day);
  }

  // ---- falls, rises, seasons

  public int greatestFall() {
    return Highs.fallInOneGo(now);
  }

  public int greatestFallByPairs() {
    return Highs.fallByPairs(now);
  }

  public int longestRise() {
    return Highs.riseInARow(now);
  }

  public int season() {
    return now.seasonDays;
  }

  public int seasonIndex(int part) throws IndexOutOfBoundsException, IllegalStateException {
    if (part < 0 || part >= now.seasonDays) {
      throw new IndexOutOfBoundsException("there is no such part");
    }
    if (Seasons.daysOf(now, part, now.length) == 0) {
      throw new IllegalStateException("the part has no days");
    }
    return Seasons.index(now, part);
  }

  public long barePrice(int day) throws IndexOutOfBoundsException {
    requireDay(day);
    return Seasons.bare(now, day);
  }

  // ---- forecasts; nothing is changed

  public int forecast(int method) throws IllegalArgumentException, IllegalStateException {
    requireRange(method, 0, METHODS - 1);
    requirePrices(1);
    return Forecasts.behind(now, method, now.length);
  }

  public int error(int method) throws IllegalArgumentException, IllegalStateException {
    requireRange(method, 0, METHODS - 1);
    requirePrices(2);
    return Forecasts.missOf(now, method);
  }

  public int bestMethod() throws IllegalStateException {
    requirePrices(2);
    return Forecasts.best(now);
  }

  public int crossingWith(int price) throws IllegalArgumentException, IllegalStateException {
    requireRange(price, 1, MOST_PRICE);
    requirePrices(1);
    if (now.length >= MOST_DAYS) {
      throw new IllegalStateException("there is no next day");
    }
    trial.copyFrom(now);
    trial.add(price);
    return Trade.crossingAt(trial, trial.length - 1);
  }

  public double smoothShare() {
    if (now.length == 0) {
      return 1.0;
    }
    return (double) (now.length - Creases.number(now)) / (double) now.length;
  }

  public long digest() {
    long hash = hashOfTotals(FIRST_HASH);
    hash = hashOfDays(hash);
    hash = hashOfSeason(hash);
    hash = hashOfForecasts(hash);
    hash = hashOfStop(hash);
    hash = mixed(hash, bitsOf(smoothShare()));
    return hashOfText(hash);
  }

  private long hashOfTotals(long start) {
    long hash = mixed(start, now.length);
    hash = mixed(hash, now.shorter);
    hash = mixed(hash, now.longer);
    hash = mixed(hash, now.seasonDays);
    hash = mixed(hash, Creases.number(now));
    hash = mixed(hash, Trade.numberOfCrossings(now));
    hash = mixed(hash, Highs.fallInOneGo(now));
    hash = mixed(hash, Highs.fallByPairs(now));
    hash = mixed(hash, Highs.riseInARow(now));
    return mixed(hash, history.count);
  }

  /** The trade goes along with the days, so that it is not told anew for each of them. */
  private long hashOfDays(long start) {
    long hash = start;
    trade.start();
    for (int day = 0; day < now.length; day++) {
      hash = hashOfMeans(hash, day);
      hash = mixed(hash, Creases.middle(now, day));
      hash = mixed(hash, Creases.standsOut(now, day) ? 1L : 0L);
      hash = mixed(hash, Highs.byLooking(now, day));
      hash = mixed(hash, highs.byRow(now, day));
      hash = mixed(hash, Trade.crossingAt(now, day));
      trade.pass(now, day);
      hash = mixed(hash, trade.held);
      hash = mixed(hash, trade.valueAt(now, day));
      hash = mixed(hash, Seasons.bare(now, day));
    }
    return hash;
  }

  private long hashOfMeans(long start, int day) {
    long hash = mixed(start, now.at(day));
    hash = mixed(hash, Means.byAdding(now, day, now.shorter));
    hash = mixed(hash, Means.bySums(now, day, now.shorter));
    hash = mixed(hash, Means.byAdding(now, day, now.longer));
    hash = mixed(hash, Means.weighted(now, day));
    hash = mixed(hash, Means.smoothedForwards(now, day));
    return mixed(hash, Means.smoothedByRecursion(now, day, 0));
  }

  private long hashOfSeason(long start) {
    long hash = start;
    for (int part = 0; part < now.seasonDays; part++) {
      if (Seasons.daysOf(now, part, now.length) > 0) {
        hash = mixed(hash, Seasons.index(now, part));
      }
    }
    return hash;
  }

  private long hashOfForecasts(long start) {
    long hash = start;
    if (now.length >= 1) {
      for (int method = 0; method < METHODS; method++) {
        hash = mixed(hash, Forecasts.behind(now, method, now.length));
      }
    }
    if (now.length >= 2) {
      for (int method = 0; method < METHODS; method++) {
        hash = mixed(hash, Forecasts.missOf(now, method));
      }
      hash = mixed(hash, Forecasts.best(now));
    }
    return hash;
  }

  private long hashOfStop(long start) {
    if (!now.stopped) {
      return mixed(start, 0L);
    }
    long hash = mixed(start, 1L);
    hash = mixed(hash, now.stopPart);
    return mixed(hash, now.stopReason);
  }

  private long hashOfText(long start) {
    long hash = mixed(start, text.length);
    for (int index = 0; index < text.length; index++) {
      hash = mixed(hash, text.codeAt(index));
    }
    return hash;
  }

  private static long mixed(long hash, long value) {
    return 31L * hash + value;
  }

  /**
   * The bits that Double.doubleToLongBits would tell; the language of the program has no such
   * function. Doubling is exact, so the digits behind the leading one come out as they stand. A
   * share is a sixtieth at the least, as day 0 is never a crease: six doublings lead it to 1.
   */
  private static long bitsOf(double share) {
    double scaled = share;
    long exponent = 1023L;
    for (int doublings = 0; doublings < 6 && scaled < 1.0; doublings++) {
      scaled = scaled * 2.0;
      exponent--;
    }
    long digits = (long) ((scaled - 1.0) * (double) (1L << 52));
    return (exponent << 52) + digits;
  }

  /** The quotient, rounded down, of two numbers that are not negative. */
  private static long divided(long whole, long by) {
    return by > 0L ? whole / by : 0L;
  }

  private static void requireRange(int value, int least, int most) {
    if (value < least || value > most) {
      throw new IllegalArgumentException("a value is out of range");
    }
  }

  private void requireDay(int day) {
    if (!now.hasDay(day)) {
      throw new IndexOutOfBoundsException("there is no such day");
    }
  }

  private void requirePrices(int least) {
    if (now.length < least) {
      throw new IllegalStateException("there are too few prices");
    }
  }

  private void requireStop() {
    if (!now.stopped) {
      throw new IllegalStateException("the latest work did not stop");
    }
  }

  /** All that undo and the snapshot bring back: prices, settings, the latest stop. */
  private static final class State {
    private final int[] row = new int[MOST_DAYS];
    private int length = 0;
    private int shorter = 3;
    private int longer = 7;
    private int memory = 6;
    private int limit = 100;
    private int seasonDays = 5;
    private boolean stopped = false;
    private int stopPart = 0;
    private int stopReason = 0;

    private void copyFrom(State other) {
      System.arraycopy(other.row, 0, row, 0, MOST_DAYS);
      length = other.length;
      shorter = other.shorter;
      longer = other.longer;
      memory = other.memory;
      limit = other.limit;
      seasonDays = other.seasonDays;
      stopped = other.stopped;
      stopPart = other.stopPart;
      stopReason = other.stopReason;
    }

    private boolean hasDay(int day) {
      return day >= 0 && day < length;
    }

    private int at(int day) {
      return day >= 0 && day < row.length ? row[day] : 0;
    }

    private void put(int day, int price) {
      if (day >= 0 && day < row.length) {
        row[day] = price;
      }
    }

    private void add(int price) {
      if (length >= 0 && length < row.length) {
        row[length] = price;
        length++;
      }
    }

    private void drop(int oldest) {
      int left = length - oldest;
      for (int day = 0; day < left; day++) {
        put(day, at(day + oldest));
      }
      length = left;
    }

    private int partOf(int day) {
      return seasonDays > 0 ? day % seasonDays : 0;
    }
  }

  /** The saved states, in a ring: when it is full, the newest takes the place of the oldest. */
  private static final class History {
    private final State[] ring = new State[MOST_SAVED];
    private int oldest = 0;
    private int count = 0;

    private History() {
      for (int place = 0; place < ring.length; place++) {
        ring[place] = new State();
      }
    }

    private void save(State state) {
      if (count == MOST_SAVED) {
        oldest = (oldest + 1) % MOST_SAVED;
      } else {
        count++;
      }
      State newest = newest();
      if (newest != null) {
        newest.copyFrom(state);
      }
    }

    private void takeBack(State state) {
      State newest = newest();
      if (newest != null && count > 0) {
        state.copyFrom(newest);
        count--;
      }
    }

    private State newest() {
      int place = (oldest + count + MOST_SAVED - 1) % MOST_SAVED;
      return place >= 0 && place < ring.length ? ring[place] : null;
    }
  }

  /** Means and smoothing, in thousandths. */
  private static final class Means {
    private static int firstOf(int day, int window) {
      return day < window ? 0 : day - window + 1;
    }

    private static int byAdding(State state, int day, int window) {
      int first = firstOf(day, window);
      long sum = 0L;
      for (int each = first; each <= day; each++) {
        sum += state.at(each);
      }
      return (int) divided(1000L * sum, day - first + 1);
    }

    private static int bySums(State state, int day, int window) {
      int first = firstOf(day, window);
      long sum = sumAhead(state, day + 1) - sumAhead(state, first);
      return (int) divided(1000L * sum, day - first + 1);
    }

    /** The sum from the beginning, of all prices ahead of a day. */
    private static long sumAhead(State state, int day) {
      long sum = 0L;
      for (int each = 0; each < day; each++) {
        sum += state.at(each);
      }
      return sum;
    }

    private static int weighted(State state, int day) {
      int first = firstOf(day, state.longer);
      long sum = 0L;
      long weights = 0L;
      for (int each = first; each <= day; each++) {
        long weight = each - first + 1;
        sum += weight * state.at(each);
        weights += weight;
      }
      return (int) divided(1000L * sum, weights);
    }

    private static int smoothedForwards(State state, int day) {
      int smooth = 1000 * state.at(0);
      for (int each = 1; each <= day; each++) {
        smooth = nextSmooth(state.memory, smooth, state.at(each));
      }
      return smooth;
    }

    /** There are at most 60 days, so it goes no deeper than 60 levels. */
    private static int smoothedByRecursion(State state, int day, int depth) {
      if (day <= 0 || depth >= MOST_DAYS) {
        return 1000 * state.at(0);
      }
      int before = smoothedByRecursion(state, day - 1, depth + 1);
      return nextSmooth(state.memory, before, state.at(day));
    }

    private static int nextSmooth(int memory, int before, int price) {
      return (memory * before + (10 - memory) * 1000 * price) / 10;
    }
  }

  /** Medians, and the days that lie far from them. */
  private static final class Creases {
    /**
     * The middle price has no more prices below it than stand ahead of the middle, and more than
     * that not above it: so no row needs to be put in order.
     */
    private static int middle(State state, int day) {
      int first = Means.firstOf(day, state.shorter);
      int ahead = (day - first) / 2;
      int found = state.at(day);
      for (int each = first; each <= day; each++) {
        int price = state.at(each);
        int below = 0;
        int notAbove = 0;
        for (int other = first; other <= day; other++) {
          below += state.at(other) < price ? 1 : 0;
          notAbove += state.at(other) <= price ? 1 : 0;
        }
        if (below <= ahead && notAbove > ahead) {
          found = price;
        }
      }
      return found;
    }

    private static boolean standsOut(State state, int day) {
      return Math.abs(state.at(day) - middle(state, day)) > state.limit;
    }

    private static int number(State state) {
      int count = 0;
      for (int day = 0; day < state.length; day++) {
        if (standsOut(state, day)) {
          count++;
        }
      }
      return count;
    }

    private static void flatten(State state, int day) {
      state.put(day, middle(state, day));
    }

    private static int flattenAll(State state) {
      int count = 0;
      for (int day = 0; day < state.length; day++) {
        if (standsOut(state, day)) {
          flatten(state, day);
          count++;
        }
      }
      return count;
    }
  }

  /** Highs, falls and rises. */
  private static final class Highs {
    /** Days whose prices fall from the front to the end: each may yet be the high of a window. */
    private final int[] candidates = new int[MOST_DAYS];
    private int front = 0;
    private int end = 0;

    private static int byLooking(State state, int day) {
      int high = 0;
      for (int each = Means.firstOf(day, state.longer); each <= day; each++) {
        high = Math.max(high, state.at(each));
      }
      return high;
    }

    private int byRow(State state, int day) {
      front = 0;
      end = 0;
      for (int each = 0; each <= day; each++) {
        enter(state, each);
        leave(Means.firstOf(each, state.longer));
      }
      return state.at(candidate(front));
    }

    private void enter(State state, int day) {
      while (end > front && state.at(candidate(end - 1)) <= state.at(day)) {
        end--;
      }
      if (end >= 0 && end < candidates.length) {
        candidates[end] = day;
        end++;
      }
    }

    /** A window moves on by one day, so that at most one candidate is too old. */
    private void leave(int firstDay) {
      if (front < end && candidate(front) < firstDay) {
        front++;
      }
    }

    private int candidate(int place) {
      return place >= 0 && place < candidates.length ? candidates[place] : 0;
    }

    private static int fallInOneGo(State state) {
      int high = 0;
      int fall = 0;
      for (int day = 0; day < state.length; day++) {
        high = Math.max(high, state.at(day));
        fall = Math.max(fall, high - state.at(day));
      }
      return fall;
    }

    private static int fallByPairs(State state) {
      int fall = 0;
      for (int day = 0; day < state.length; day++) {
        for (int later = day + 1; later < state.length; later++) {
          fall = Math.max(fall, state.at(day) - state.at(later));
        }
      }
      return fall;
    }

    private static int riseInARow(State state) {
      int longest = 0;
      int rise = 0;
      for (int day = 1; day < state.length; day++) {
        rise = state.at(day) > state.at(day - 1) ? rise + 1 : 0;
        longest = Math.max(longest, rise);
      }
      return longest;
    }
  }

  /** Crossings of the means, and what is bought and sold at them. */
  private static final class Trade {
    private long coins = FIRST_COINS;
    private int held = 0;

    private static int crossingAt(State state, int day) {
      if (day < 1) {
        return 0;
      }
      int side = sideAt(state, day);
      return side == sideAt(state, day - 1) ? 0 : side;
    }

    /** 1 if the mean of the short window is the greater one, -1 if it is the lesser one. */
    private static int sideAt(State state, int day) {
      int ofShorter = Means.byAdding(state, day, state.shorter);
      int ofLonger = Means.byAdding(state, day, state.longer);
      if (ofShorter == ofLonger) {
        return 0;
      }
      return ofShorter > ofLonger ? 1 : -1;
    }

    private static int numberOfCrossings(State state) {
      int count = 0;
      for (int day = 1; day < state.length; day++) {
        if (crossingAt(state, day) != 0) {
          count++;
        }
      }
      return count;
    }

    private void start() {
      coins = FIRST_COINS;
      held = 0;
    }

    private void runTo(State state, int day) {
      start();
      for (int each = 0; each <= day; each++) {
        pass(state, each);
      }
    }

    private void pass(State state, int day) {
      int crossing = crossingAt(state, day);
      long price = state.at(day);
      if (crossing > 0) {
        long bought = Math.min(divided(coins, price), MOST_PIECES - held);
        coins -= bought * price;
        held += (int) bought;
      } else if (crossing < 0) {
        coins += held * price;
        held = 0;
      }
    }

    private long valueAt(State state, int day) {
      return coins + (long) held * state.at(day);
    }
  }

  /** The parts of the season, and prices without it. */
  private static final class Seasons {
    /** How many of the first days are of a part. */
    private static int daysOf(State state, int part, int length) {
      int count = 0;
      for (int day = 0; day < length; day++) {
        if (state.partOf(day) == part) {
          count++;
        }
      }
      return count;
    }

    /** The sum of the prices of those of the first days that are of a part. */
    private static long sumOf(State state, int part, int length) {
      long sum = 0L;
      for (int day = 0; day < length; day++) {
        if (state.partOf(day) == part) {
          sum += state.at(day);
        }
      }
      return sum;
    }

    private static int index(State state, int part) {
      long ofPart = 1000L * sumOf(state, part, state.length) * state.length;
      long ofAll = daysOf(state, part, state.length) * Means.sumAhead(state, state.length);
      return (int) divided(ofPart, ofAll);
    }

    private static long bare(State state, int day) {
      int part = state.partOf(day);
      long ofAll = daysOf(state, part, state.length) * Means.sumAhead(state, state.length);
      long ofPart = sumOf(state, part, state.length) * state.length;
      return divided(1000L * state.at(day) * ofAll, ofPart);
    }
  }

  /** Forecasts by the four methods, and how far they were from what came. */
  private static final class Forecasts {
    /** The forecast for the day behind the first days, by them alone. */
    private static int behind(State state, int method, int length) {
      int part = state.partOf(length);
      int ofPart = method == 3 ? Seasons.daysOf(state, part, length) : 0;
      if (ofPart > 0) {
        return (int) divided(1000L * Seasons.sumOf(state, part, length), ofPart);
      }
      if (method == 2) {
        return Means.smoothedForwards(state, length - 1);
      }
      return Means.byAdding(state, length - 1, method == 0 ? state.shorter : state.longer);
    }

    private static int missOf(State state, int method) {
      long sum = 0L;
      for (int day = 1; day < state.length; day++) {
        sum += Math.abs(behind(state, method, day) - 1000 * state.at(day));
      }
      return (int) divided(sum, state.length - 1);
    }

    private static int best(State state) {
      int best = 0;
      int least = missOf(state, 0);
      for (int method = 1; method < METHODS; method++) {
        int miss = missOf(state, method);
        if (miss < least) {
          least = miss;
          best = method;
        }
      }
      return best;
    }
  }

  /** Reads works as a text sign by sign, and refuses a sign that no works can have there. */
  private static final class Syntax {
    /** The letter of the part that is being read; 0 ahead of it. */
    private int letter = 0;
    /** How many numbers of the part stand ahead of the one that is being read. */
    private int field = 0;
    private int digits = 0;
    private int value = 0;

    private void start() {
      letter = 0;
      startNumber(0);
    }

    private void startNumber(int newField) {
      field = newField;
      digits = 0;
      value = 0;
    }

    private boolean takes(int code) {
      if (letter == 0) {
        return takesLetter(code);
      }
      if (code >= '0' && code <= '9') {
        return takesDigit(code - '0');
      }
      if (!numberStands()) {
        return false;
      }
      if (code == ';' && !wantsLonger()) {
        start();
        return true;
      }
      if ((code == ',' && letter == 'p') || (code == ':' && wantsLonger())) {
        startNumber(field + 1);
        return true;
      }
      return false;
    }

    private boolean takesLetter(int code) {
      switch (code) {
        case 'p':
        case 'w':
        case 'm':
        case 'l':
        case 'x':
        case 'a':
          letter = code;
          startNumber(0);
          return true;
        default:
          return false;
      }
    }

    private boolean takesDigit(int digit) {
      boolean leadingZero = digits > 0 && value == 0;
      if (letter == 'a' || leadingZero) {
        return false;
      }
      int longerValue = 10 * value + digit;
      if (!canBecomeNumber(longerValue)) {
        return false;
      }
      value = longerValue;
      digits++;
      return true;
    }

    /**
     * Whether some number in range begins with these digits. A 0 can't go on; what is still too
     * small (the 1 of a long window) can, by one more digit.
     */
    private boolean canBecomeNumber(int begun) {
      if (begun == 0) {
        return least() == 0;
      }
      return begun >= least() ? begun <= most() : 10 * begun <= most();
    }

    private boolean numberStands() {
      return letter == 'a' || (digits > 0 && value >= least());
    }

    private boolean wantsLonger() {
      return letter == 'w' && field == 0;
    }

    private boolean mayEnd() {
      return letter != 0 && numberStands() && !wantsLonger();
    }

    private int least() {
      switch (letter) {
        case 'p':
          return 1;
        case 'w':
          return field == 0 ? 1 : LEAST_LONGER;
        default:
          return 0;
      }
    }

    private int most() {
      switch (letter) {
        case 'p':
          return MOST_PRICE;
        case 'w':
          return field == 0 ? MOST_SHORTER : MOST_LONGER;
        case 'm':
          return MOST_MEMORY;
        case 'l':
          return MOST_LIMIT;
        default:
          return MOST_DAYS - 1;
      }
    }
  }

  /** The buffer. */
  private static final class Text {
    private final int[] codes = new int[MOST_SIGNS];
    private int length = 0;
    private final Syntax syntax = new Syntax();

    private void add(int code) {
      if (length >= 0 && length < codes.length) {
        codes[length] = code;
        length++;
      }
    }

    private void empty() {
      length = 0;
    }

    private int codeAt(int index) {
      return index >= 0 && index < codes.length ? codes[index] : 0;
    }

    private int firstRefused() {
      syntax.start();
      for (int index = 0; index < length; index++) {
        if (!syntax.takes(codeAt(index))) {
          return index;
        }
      }
      return length;
    }

    private boolean isWhole() {
      return firstRefused() == length && syntax.mayEnd();
    }
  }

  /** Does works as a text, of which it is known that they are complete. */
  private static final class Works {
    /** The part that is being done: its letter and its numbers. */
    private int letter = 0;
    private final int[] numbers = new int[MOST_SIGNS];
    private int count = 0;

    /** Tells how many parts are done, and leaves in the state where and why it stopped. */
    private int run(State state, Text text) {
      int done = 0;
      int reason = 0;
      int from = 0;
      for (int part = 0; part < MOST_SIGNS && from < text.length && reason == 0; part++) {
        from = readPart(text, from);
        reason = doPart(state);
        done = reason == 0 ? part + 1 : part;
      }
      state.stopped = reason != 0;
      state.stopPart = state.stopped ? done : 0;
      state.stopReason = reason;
      return done;
    }

    /** Tells where the next part begins. */
    private int readPart(Text text, int from) {
      letter = text.codeAt(from);
      count = 0;
      boolean inNumber = false;
      int index = from + 1;
      for (; index < text.length && text.codeAt(index) != ';'; index++) {
        int code = text.codeAt(index);
        boolean isDigit = code >= '0' && code <= '9';
        if (isDigit && !inNumber) {
          startNumber();
        }
        if (isDigit) {
          growNumber(code - '0');
        }
        inNumber = isDigit;
      }
      return index + 1;
    }

    private void startNumber() {
      if (count >= 0 && count < numbers.length) {
        numbers[count] = 0;
        count++;
      }
    }

    private void growNumber(int digit) {
      if (count > 0 && count <= numbers.length) {
        numbers[count - 1] = 10 * numbers[count - 1] + digit;
      }
    }

    private int number(int place) {
      return place >= 0 && place < numbers.length ? numbers[place] : 0;
    }

    /** Tells why the part is not possible, or 0 if it is done. */
    private int doPart(State state) {
      switch (letter) {
        case 'p':
          return addAll(state);
        case 'w':
          return changeWindows(state);
        case 'm':
          state.memory = number(0);
          return 0;
        case 'l':
          state.limit = number(0);
          return 0;
        case 'x':
          return flattenOne(state);
        default:
          Creases.flattenAll(state);
          return 0;
      }
    }

    private int addAll(State state) {
      if (state.length + count > MOST_DAYS) {
        return TOO_MANY_PRICES;
      }
      for (int place = 0; place < count; place++) {
        state.add(number(place));
      }
      return 0;
    }

    private int changeWindows(State state) {
      if (number(0) >= number(1)) {
        return WINDOWS_NOT_RISING;
      }
      state.shorter = number(0);
      state.longer = number(1);
      return 0;
    }

    private int flattenOne(State state) {
      int day = number(0);
      if (!state.hasDay(day)) {
        return NO_SUCH_DAY;
      }
      if (!Creases.standsOut(state, day)) {
        return NO_CREASE;
      }
      Creases.flatten(state, day);
      return 0;
    }
  }
}
