import java.util.Arrays;

/** A chain of ferries across a flood plain. */
public final class FloodFerry {
  private static final int NONE = -1;

  private static final int SIDE = 14;
  private static final int CELLS = SIDE * SIDE;
  private static final int DIRECTIONS = 4;
  private static final int FIRST_GROUND = 5;
  private static final int MOST_GROUND = 20;
  private static final int MOST_STAKE = 9;

  private static final int TABLE_HOURS = 12;
  private static final int FIRST_LEVEL = 8;
  private static final int MOST_LEVEL = 24;
  private static final int LEVELS = MOST_LEVEL + 1;

  private static final int MOST_LANDINGS = 8;
  private static final int MOST_PUNTS = 6;
  private static final int MOST_TRAVELLERS = 30;
  private static final int LEAST_DRAUGHT = 1;
  private static final int MOST_DRAUGHT = 4;
  private static final int LEAST_POLE = 2;
  private static final int MOST_POLE = 12;
  private static final int LEAST_ROOM = 1;
  private static final int MOST_ROOM = 6;
  private static final int MOST_TOLL = 50;
  private static final int MOST_PURSE = 1000;

  private static final int MOST_HOURS = 100;
  private static final int HOURS_AHEAD = 400;

  private static final int CELL_ANSWERS = 6;
  private static final int PUNT_ANSWERS = 9;
  private static final int TRAVELLER_ANSWERS = 7;
  private static final int LANDING_ANSWERS = 5;
  private static final int COUNT_ANSWERS = 11;
  private static final int CHAIN_ANSWERS = 3;

  private static final long DIGEST_START = 557;
  private static final long DIGEST_FACTOR = 31;

  private final Plain plain;
  private final Landings landings;
  private final Fleet fleet;
  private final Chains chains;
  private final Charts charts;
  private final Traffic now;
  private final Traffic ahead;

  public FloodFerry() {
    plain = new Plain();
    landings = new Landings();
    fleet = new Fleet();
    chains = new Chains(fleet);
    charts = new Charts(plain, landings, fleet);
    now = new Traffic(plain, landings, fleet, chains, charts);
    ahead = new Traffic(plain, landings, fleet, chains, charts);
  }

  // ---- ground and water

  public int setGround(int x, int y, int ground)
      throws IndexOutOfBoundsException, IllegalArgumentException {
    needIndex(onPlain(x, y));
    needArgument(within(ground, 0, MOST_GROUND));
    int before = plain.ground.put(cellOf(x, y), ground);
    charts.forget();
    return before;
  }

  public int setWater(int hour, int level)
      throws IndexOutOfBoundsException, IllegalArgumentException {
    needIndex(isOneOf(hour, TABLE_HOURS));
    needArgument(within(level, 0, MOST_LEVEL));
    return plain.water.put(hour, level);
  }

  public int setStake(int x, int y, int length)
      throws IndexOutOfBoundsException, IllegalArgumentException {
    needIndex(onPlain(x, y));
    needArgument(within(length, 0, MOST_STAKE));
    return plain.stake.put(cellOf(x, y), length);
  }

  public int cell(int x, int y, int what) throws IndexOutOfBoundsException {
    needIndex(onPlain(x, y) && isOneOf(what, CELL_ANSWERS));
    int cell = cellOf(x, y);
    int level = now.level();
    switch (what) {
      case 0:
        return plain.ground.get(cell);
      case 1:
        return plain.depth(cell, level);
      case 2:
        return plain.stake.get(cell);
      case 3:
        return plain.showsStake(cell, level) ? 1 : 0;
      case 4:
        return landings.on(cell);
      default:
        return now.cell.howMany(cell, fleet.number);
    }
  }

  // ---- landings and punts

  public int addLanding(int x, int y) throws IndexOutOfBoundsException, IllegalStateException {
    needIndex(onPlain(x, y));
    int cell = cellOf(x, y);
    needState(landings.on(cell) == NONE && landings.number < MOST_LANDINGS);
    return landings.add(cell);
  }

  public int launch(int home, int goal, int draught, int pole, int room, int toll)
      throws IndexOutOfBoundsException, IllegalArgumentException, IllegalStateException {
    needIndex(isOneOf(home, landings.number) && isOneOf(goal, landings.number));
    needArgument(home != goal);
    needArgument(within(draught, LEAST_DRAUGHT, MOST_DRAUGHT));
    needArgument(within(pole, LEAST_POLE, MOST_POLE));
    needArgument(within(room, LEAST_ROOM, MOST_ROOM));
    needArgument(within(toll, 0, MOST_TOLL));
    needState(fleet.number < MOST_PUNTS);
    int punt = fleet.add(home, goal);
    fleet.fitOut(punt, draught, pole, room, toll);
    now.place(punt, landings.cell.get(home), goal);
    chains.reckon();
    return punt;
  }

  public int setToll(int punt, int toll)
      throws IndexOutOfBoundsException, IllegalArgumentException {
    needIndex(isOneOf(punt, fleet.number));
    needArgument(within(toll, 0, MOST_TOLL));
    return fleet.toll.put(punt, toll);
  }

  public int punt(int punt, int what) throws IndexOutOfBoundsException {
    needIndex(isOneOf(punt, fleet.number) && isOneOf(what, PUNT_ANSWERS));
    return tellPunt(punt, what);
  }

  private int tellPunt(int punt, int what) {
    switch (what) {
      case 0:
        return columnOf(now.cell.get(punt));
      case 1:
        return rowOf(now.cell.get(punt));
      case 2:
        return now.bound.get(punt);
      case 3:
        return now.travellers.punt.howMany(punt, now.travellers.number);
      case 4:
        return fleet.toll.get(punt);
      case 5:
        return now.isAground(punt) ? 1 : 0;
      case 6:
        return now.wayLeft(punt);
      case 7:
        return now.takings.get(punt);
      default:
        return now.steps.get(punt);
    }
  }

  // ---- travellers

  public int addTraveller(int from, int to, int purse)
      throws IndexOutOfBoundsException, IllegalArgumentException, IllegalStateException {
    needIndex(isOneOf(from, landings.number) && isOneOf(to, landings.number));
    needArgument(from != to);
    needArgument(within(purse, 0, MOST_PURSE));
    needState(now.travellers.number < MOST_TRAVELLERS);
    return now.travellers.add(from, to, purse);
  }

  public int traveller(int traveller, int what) throws IndexOutOfBoundsException {
    needIndex(isOneOf(traveller, now.travellers.number) && isOneOf(what, TRAVELLER_ANSWERS));
    return tellTraveller(traveller, what);
  }

  private int tellTraveller(int traveller, int what) {
    Travellers travellers = now.travellers;
    switch (what) {
      case 0:
        return travellers.wish.get(traveller);
      case 1:
        return travellers.purse.get(traveller);
      case 2:
        return travellers.landing.get(traveller);
      case 3:
        return travellers.punt.get(traveller);
      case 4:
        return travellers.hasCome(traveller) ? 1 : 0;
      case 5:
        return now.chainLeft(traveller);
      default:
        return travellers.cameAt.get(traveller);
    }
  }

  public int landing(int landing, int what) throws IndexOutOfBoundsException {
    needIndex(isOneOf(landing, landings.number) && isOneOf(what, LANDING_ANSWERS));
    return tellLanding(landing, what);
  }

  private int tellLanding(int landing, int what) {
    switch (what) {
      case 0:
        return columnOf(landings.cell.get(landing));
      case 1:
        return rowOf(landings.cell.get(landing));
      case 2:
        return now.travellers.waitingAt(landing);
      case 3:
        return now.travellers.comeTo(landing);
      default:
        return fleet.puntsFrom(landing);
    }
  }

  // ---- hours

  public int pass(int hours) throws IllegalArgumentException {
    needArgument(within(hours, 1, MOST_HOURS));
    int came = 0;
    for (int hour = 0; hour < hours; hour++) {
      came += now.goOn();
    }
    return came;
  }

  public int count(int what) throws IndexOutOfBoundsException {
    needIndex(isOneOf(what, COUNT_ANSWERS));
    return tellCount(what);
  }

  private int tellCount(int what) {
    switch (what) {
      case 0:
        return now.hour;
      case 1:
        return now.level();
      case 2:
        return landings.number;
      case 3:
        return fleet.number;
      case 4:
        return now.travellers.number;
      case 5:
        return now.travellers.waiting();
      case 6:
        return now.travellers.riding();
      case 7:
        return now.travellers.come();
      case 8:
        return now.takingsInAll();
      case 9:
        return now.puntsAground();
      default:
        return plain.stakesShown(now.level());
    }
  }

  // ---- ways, chains, looking ahead

  public int crossing(int punt, int level)
      throws IndexOutOfBoundsException, IllegalArgumentException {
    needIndex(isOneOf(punt, fleet.number));
    needArgument(within(level, 0, MOST_LEVEL));
    return crossingAt(punt, level);
  }

  private int crossingAt(int punt, int level) {
    int chart = charts.chartOf(punt, fleet.goal.get(punt), level);
    return charts.way(chart, landings.cell.get(fleet.home.get(punt)));
  }

  public int opens(int punt) throws IndexOutOfBoundsException {
    needIndex(isOneOf(punt, fleet.number));
    for (int level = 0; level <= MOST_LEVEL; level++) {
      if (crossingAt(punt, level) != NONE) {
        return level;
      }
    }
    return NONE;
  }

  public int chain(int from, int to, int what) throws IndexOutOfBoundsException {
    needIndex(isOneOf(from, landings.number) && isOneOf(to, landings.number));
    needIndex(isOneOf(what, CHAIN_ANSWERS));
    switch (what) {
      case 0:
        return chains.length(from, to);
      case 1:
        return chains.firstPunt(from, to);
      default:
        return chains.leastTolls(from, to);
    }
  }

  public int aground(int punt, int hours)
      throws IndexOutOfBoundsException, IllegalArgumentException {
    needIndex(isOneOf(punt, fleet.number));
    needArgument(within(hours, 1, MOST_HOURS));
    ahead.takeOver(now);
    for (int behind = 0; behind <= hours; behind++) {
      if (ahead.isAground(punt)) {
        return behind;
      }
      ahead.goOn();
    }
    return NONE;
  }

  public int arrives(int traveller) throws IndexOutOfBoundsException {
    needIndex(isOneOf(traveller, now.travellers.number));
    ahead.takeOver(now);
    for (int hour = 0; hour < HOURS_AHEAD && !ahead.travellers.hasCome(traveller); hour++) {
      ahead.goOn();
    }
    return ahead.travellers.cameAt.get(traveller);
  }

  public double mean() {
    int level = now.level();
    int sum = 0;
    for (int cell = 0; cell < CELLS; cell++) {
      sum += plain.depth(cell, level);
    }
    return (double) sum / CELLS;
  }

  public long digest() {
    long sum = digestOfPlain(digestOfCounts(DIGEST_START));
    for (int landing = 0; landing < landings.number; landing++) {
      for (int what = 0; what < LANDING_ANSWERS; what++) {
        sum = sum * DIGEST_FACTOR + tellLanding(landing, what);
      }
    }
    for (int punt = 0; punt < fleet.number; punt++) {
      for (int what = 0; what < PUNT_ANSWERS; what++) {
        sum = sum * DIGEST_FACTOR + tellPunt(punt, what);
      }
    }
    for (int traveller = 0; traveller < now.travellers.number; traveller++) {
      for (int what = 0; what < TRAVELLER_ANSWERS; what++) {
        sum = sum * DIGEST_FACTOR + tellTraveller(traveller, what);
      }
    }
    return sum;
  }

  private long digestOfCounts(long start) {
    long sum = start;
    for (int what = 0; what < COUNT_ANSWERS; what++) {
      sum = sum * DIGEST_FACTOR + tellCount(what);
    }
    return sum;
  }

  private long digestOfPlain(long start) {
    long sum = start;
    for (int hour = 0; hour < TABLE_HOURS; hour++) {
      sum = sum * DIGEST_FACTOR + plain.water.get(hour);
    }
    for (int cell = 0; cell < CELLS; cell++) {
      sum = sum * DIGEST_FACTOR + plain.ground.get(cell);
      sum = sum * DIGEST_FACTOR + plain.stake.get(cell);
    }
    return sum;
  }

  // ---- what a call needs

  private static void needIndex(boolean holds) {
    if (!holds) {
      throw new IndexOutOfBoundsException("there is no such number");
    }
  }

  private static void needArgument(boolean holds) {
    if (!holds) {
      throw new IllegalArgumentException("an argument is not allowed");
    }
  }

  private static void needState(boolean holds) {
    if (!holds) {
      throw new IllegalStateException("there is no place for it");
    }
  }

  private static boolean within(int number, int least, int most) {
    return number >= least && number <= most;
  }

  private static boolean isOneOf(int number, int howMany) {
    return number >= 0 && number < howMany;
  }

  private static boolean onPlain(int x, int y) {
    return isOneOf(x, SIDE) && isOneOf(y, SIDE);
  }

  private static int cellOf(int x, int y) {
    return x + SIDE * y;
  }

  private static int columnOf(int cell) {
    return cell % SIDE;
  }

  private static int rowOf(int cell) {
    return cell / SIDE;
  }

  /** A row of numbers. It looks at each index itself, so that no other place indexes an array. */
  private static final class Row {
    private final int[] numbers;

    Row(int length) {
      numbers = new int[length < 0 ? 0 : length];
    }

    int get(int index) {
      return index >= 0 && index < numbers.length ? numbers[index] : 0;
    }

    void set(int index, int number) {
      if (index >= 0 && index < numbers.length) {
        numbers[index] = number;
      }
    }

    /** Sets a number and answers the one before. */
    int put(int index, int number) {
      int before = get(index);
      set(index, number);
      return before;
    }

    void add(int index, int more) {
      set(index, get(index) + more);
    }

    void fill(int number) {
      Arrays.fill(numbers, number);
    }

    /** How often a number stands among the first ones. */
    int howMany(int number, int ofFirst) {
      int found = 0;
      for (int index = 0; index < ofFirst && index < numbers.length; index++) {
        if (numbers[index] == number) {
          found++;
        }
      }
      return found;
    }

    void takeOver(Row other) {
      for (int index = 0; index < numbers.length; index++) {
        numbers[index] = other.get(index);
      }
    }
  }

  /** The cells and the table of the water. */
  private static final class Plain {
    final Row ground = new Row(CELLS);
    final Row stake = new Row(CELLS);
    final Row water = new Row(TABLE_HOURS);

    Plain() {
      ground.fill(FIRST_GROUND);
      water.fill(FIRST_LEVEL);
    }

    int levelAt(int hour) {
      return water.get(hour % TABLE_HOURS);
    }

    int depth(int cell, int level) {
      return Math.max(0, level - ground.get(cell));
    }

    // A cell without a stake has one of length 0, which no depth is less than.
    boolean showsStake(int cell, int level) {
      return depth(cell, level) < stake.get(cell);
    }

    int stakesShown(int level) {
      int shown = 0;
      for (int cell = 0; cell < CELLS; cell++) {
        if (showsStake(cell, level)) {
          shown++;
        }
      }
      return shown;
    }

    /** The cells side by side with one, by directions, in the order of their numbers. */
    static int beside(int cell, int direction) {
      switch (direction) {
        case 0:
          return rowOf(cell) == 0 ? NONE : cell - SIDE;
        case 1:
          return columnOf(cell) == 0 ? NONE : cell - 1;
        case 2:
          return columnOf(cell) == SIDE - 1 ? NONE : cell + 1;
        default:
          return rowOf(cell) == SIDE - 1 ? NONE : cell + SIDE;
      }
    }
  }

  /** The landings, by their numbers. */
  private static final class Landings {
    int number;
    final Row cell = new Row(MOST_LANDINGS);

    int add(int newCell) {
      int landing = number;
      cell.set(landing, newCell);
      number++;
      return landing;
    }

    int on(int someCell) {
      for (int landing = 0; landing < number; landing++) {
        if (cell.get(landing) == someCell) {
          return landing;
        }
      }
      return NONE;
    }
  }

  /** What of the punts stays as it is while hours go by. */
  private static final class Fleet {
    int number;
    final Row home = new Row(MOST_PUNTS);
    final Row goal = new Row(MOST_PUNTS);
    final Row draught = new Row(MOST_PUNTS);
    final Row pole = new Row(MOST_PUNTS);
    final Row room = new Row(MOST_PUNTS);
    final Row toll = new Row(MOST_PUNTS);

    int add(int itsHome, int itsGoal) {
      int punt = number;
      home.set(punt, itsHome);
      goal.set(punt, itsGoal);
      number++;
      return punt;
    }

    void fitOut(int punt, int itsDraught, int itsPole, int itsRoom, int itsToll) {
      draught.set(punt, itsDraught);
      pole.set(punt, itsPole);
      room.set(punt, itsRoom);
      toll.set(punt, itsToll);
    }

    boolean floats(int punt, int depth) {
      return depth >= draught.get(punt) && depth <= pole.get(punt);
    }

    boolean goesFrom(int punt, int landing) {
      return home.get(punt) == landing || goal.get(punt) == landing;
    }

    int otherEnd(int punt, int landing) {
      return home.get(punt) == landing ? goal.get(punt) : home.get(punt);
    }

    int puntsFrom(int landing) {
      return home.howMany(landing, number) + goal.howMany(landing, number);
    }
  }

  /** The chains of punts between landings; they change with a new punt alone. */
  private static final class Chains {
    private static final int DEAREST = MOST_TOLL * MOST_PUNTS;

    private final Fleet fleet;
    private final Row lengths = new Row(MOST_LANDINGS * MOST_LANDINGS);
    private final Row firstPunts = new Row(MOST_LANDINGS * MOST_LANDINGS);
    private final Row tolls = new Row(MOST_LANDINGS);

    Chains(Fleet fleet) {
      this.fleet = fleet;
      reckon();
    }

    int length(int from, int to) {
      return lengths.get(from * MOST_LANDINGS + to);
    }

    int firstPunt(int from, int to) {
      return firstPunts.get(from * MOST_LANDINGS + to);
    }

    void reckon() {
      lengths.fill(NONE);
      for (int to = 0; to < MOST_LANDINGS; to++) {
        lengths.set(to * MOST_LANDINGS + to, 0);
        for (int length = 0; length < MOST_PUNTS; length++) {
          lengthenAll(to, length);
        }
        for (int from = 0; from < MOST_LANDINGS; from++) {
          firstPunts.set(from * MOST_LANDINGS + to, findFirst(from, to));
        }
      }
    }

    /** Finds the landings from which a chain to one has a punt more than a length. */
    private void lengthenAll(int to, int length) {
      for (int punt = 0; punt < fleet.number; punt++) {
        lengthen(fleet.home.get(punt), fleet.goal.get(punt), to, length);
        lengthen(fleet.goal.get(punt), fleet.home.get(punt), to, length);
      }
    }

    private void lengthen(int start, int change, int to, int length) {
      if (length(change, to) == length && length(start, to) == NONE) {
        lengths.set(start * MOST_LANDINGS + to, length + 1);
      }
    }

    private int findFirst(int from, int to) {
      for (int punt = 0; punt < fleet.number; punt++) {
        if (begins(punt, from, to)) {
          return punt;
        }
      }
      return NONE;
    }

    /** Tells whether a punt begins one of the chains with the fewest punts. */
    private boolean begins(int punt, int from, int to) {
      return length(from, to) > 0
          && fleet.goesFrom(punt, from)
          && length(fleet.otherEnd(punt, from), to) == length(from, to) - 1;
    }

    int leastTolls(int from, int to) {
      int longest = length(from, to);
      if (longest == NONE) {
        return NONE;
      }
      tolls.set(to, 0);
      for (int length = 1; length <= longest; length++) {
        for (int start = 0; start < MOST_LANDINGS; start++) {
          if (length(start, to) == length) {
            tolls.set(start, cheapestFrom(start, to));
          }
        }
      }
      return tolls.get(from);
    }

    /** The least tolls from a landing, when those of all shorter chains are known. */
    private int cheapestFrom(int start, int to) {
      int least = DEAREST;
      for (int punt = 0; punt < fleet.number; punt++) {
        if (begins(punt, start, to)) {
          int sum = fleet.toll.get(punt) + tolls.get(fleet.otherEnd(punt, start));
          least = Math.min(least, sum);
        }
      }
      return least;
    }
  }

  /**
   * For each punt, each of its two landings and each level of the water, a chart of how long the
   * way to the landing is from each cell. A chart is kept, as looking ahead asks for the same ones
   * again and again; only new ground makes it wrong.
   */
  private static final class Charts {
    private static final int CHARTS = MOST_PUNTS * 2 * LEVELS;

    private final Plain plain;
    private final Landings landings;
    private final Fleet fleet;
    private final Row ways = new Row(CHARTS * CELLS);
    private final Row drawn = new Row(CHARTS);
    private final Row queue = new Row(CELLS);

    Charts(Plain plain, Landings landings, Fleet fleet) {
      this.plain = plain;
      this.landings = landings;
      this.fleet = fleet;
    }

    void forget() {
      drawn.fill(0);
    }

    /** Draws the chart if it is not there, and answers where it begins in the row of all. */
    int chartOf(int punt, int landing, int level) {
      int side = fleet.home.get(punt) == landing ? 0 : 1;
      int number = (punt * 2 + side) * LEVELS + level;
      int chart = number * CELLS;
      if (drawn.put(number, 1) == 0) {
        draw(chart, punt, landings.cell.get(landing), level);
      }
      return chart;
    }

    /** How long the way is; NONE if there is none, or the punt would not float on the cell. */
    int way(int chart, int cell) {
      return ways.get(chart + cell);
    }

    /** The cell of the next step; NONE if there is no way, or it ends here. */
    int nextStep(int chart, int cell) {
      int way = way(chart, cell);
      for (int direction = 0; way > 0 && direction < DIRECTIONS; direction++) {
        int beside = Plain.beside(cell, direction);
        if (beside != NONE && way(chart, beside) == way - 1) {
          return beside;
        }
      }
      return NONE;
    }

    /** Goes back from the end of the ways, so that one search serves all cells. */
    private void draw(int chart, int punt, int end, int level) {
      for (int cell = 0; cell < CELLS; cell++) {
        ways.set(chart + cell, NONE);
      }
      if (!fleet.floats(punt, plain.depth(end, level))) {
        return;
      }
      ways.set(chart + end, 0);
      queue.set(0, end);
      int queued = 1;
      for (int next = 0; next < queued && next < CELLS; next++) {
        int cell = queue.get(next);
        for (int direction = 0; direction < DIRECTIONS; direction++) {
          int beside = Plain.beside(cell, direction);
          if (beside != NONE
              && ways.get(chart + beside) == NONE
              && fleet.floats(punt, plain.depth(beside, level))) {
            ways.set(chart + beside, ways.get(chart + cell) + 1);
            queue.set(queued, beside);
            queued++;
          }
        }
      }
    }
  }

  /** The travellers, by their numbers. */
  private static final class Travellers {
    int number;
    final Row wish = new Row(MOST_TRAVELLERS);
    final Row purse = new Row(MOST_TRAVELLERS);
    final Row landing = new Row(MOST_TRAVELLERS);
    final Row punt = new Row(MOST_TRAVELLERS);
    final Row cameAt = new Row(MOST_TRAVELLERS);

    void takeOver(Travellers other) {
      number = other.number;
      wish.takeOver(other.wish);
      purse.takeOver(other.purse);
      landing.takeOver(other.landing);
      punt.takeOver(other.punt);
      cameAt.takeOver(other.cameAt);
    }

    int add(int from, int to, int itsPurse) {
      int traveller = number;
      wish.set(traveller, to);
      purse.set(traveller, itsPurse);
      landing.set(traveller, from);
      punt.set(traveller, NONE);
      cameAt.set(traveller, NONE);
      number++;
      return traveller;
    }

    boolean hasCome(int traveller) {
      return cameAt.get(traveller) != NONE;
    }

    boolean rides(int traveller) {
      return punt.get(traveller) != NONE;
    }

    boolean waitsAt(int traveller, int itsLanding) {
      return landing.get(traveller) == itsLanding && cameAt.get(traveller) == NONE;
    }

    void getIn(int traveller, int itsPunt, int toll) {
      purse.add(traveller, -toll);
      landing.set(traveller, NONE);
      punt.set(traveller, itsPunt);
    }

    /** Has all in a punt get out, and answers how many have come. */
    int getOut(int itsPunt, int itsLanding, int hour) {
      int came = 0;
      for (int traveller = 0; traveller < number; traveller++) {
        if (punt.get(traveller) == itsPunt) {
          punt.set(traveller, NONE);
          landing.set(traveller, itsLanding);
          if (wish.get(traveller) == itsLanding) {
            cameAt.set(traveller, hour);
            came++;
          }
        }
      }
      return came;
    }

    int waitingAt(int itsLanding) {
      int found = 0;
      for (int traveller = 0; traveller < number; traveller++) {
        if (waitsAt(traveller, itsLanding)) {
          found++;
        }
      }
      return found;
    }

    int comeTo(int itsLanding) {
      return landing.howMany(itsLanding, number) - waitingAt(itsLanding);
    }

    int riding() {
      return number - punt.howMany(NONE, number);
    }

    int come() {
      return number - cameAt.howMany(NONE, number);
    }

    int waiting() {
      return number - riding() - come();
    }
  }

  /** All that changes as hours go by; a second one of these looks ahead. */
  private static final class Traffic {
    private final Plain plain;
    private final Landings landings;
    private final Fleet fleet;
    private final Chains chains;
    private final Charts charts;
    int hour;
    final Row cell = new Row(MOST_PUNTS);
    final Row bound = new Row(MOST_PUNTS);
    final Row takings = new Row(MOST_PUNTS);
    final Row steps = new Row(MOST_PUNTS);
    final Travellers travellers = new Travellers();

    Traffic(Plain plain, Landings landings, Fleet fleet, Chains chains, Charts charts) {
      this.plain = plain;
      this.landings = landings;
      this.fleet = fleet;
      this.chains = chains;
      this.charts = charts;
    }

    void takeOver(Traffic other) {
      hour = other.hour;
      cell.takeOver(other.cell);
      bound.takeOver(other.bound);
      takings.takeOver(other.takings);
      steps.takeOver(other.steps);
      travellers.takeOver(other.travellers);
    }

    void place(int punt, int itsCell, int landing) {
      cell.set(punt, itsCell);
      bound.set(punt, landing);
    }

    int level() {
      return plain.levelAt(hour);
    }

    boolean isAground(int punt) {
      return !fleet.floats(punt, plain.depth(cell.get(punt), level()));
    }

    int wayLeft(int punt) {
      return charts.way(charts.chartOf(punt, bound.get(punt), level()), cell.get(punt));
    }

    int puntsAground() {
      int found = 0;
      for (int punt = 0; punt < fleet.number; punt++) {
        if (isAground(punt)) {
          found++;
        }
      }
      return found;
    }

    int takingsInAll() {
      int sum = 0;
      for (int punt = 0; punt < fleet.number; punt++) {
        sum += takings.get(punt);
      }
      return sum;
    }

    /** How many punts the chain of a traveller has yet; the one ridden in is one of them. */
    int chainLeft(int traveller) {
      int wish = travellers.wish.get(traveller);
      if (!travellers.rides(traveller)) {
        return chains.length(travellers.landing.get(traveller), wish);
      }
      int rest = chains.length(bound.get(travellers.punt.get(traveller)), wish);
      return rest == NONE ? NONE : rest + 1;
    }

    /** Lets an hour go by, and answers how many travellers came in it. */
    int goOn() {
      int came = 0;
      for (int punt = 0; punt < fleet.number; punt++) {
        if (hasLanded(punt)) {
          came += turnRound(punt);
        }
      }
      for (int punt = 0; punt < fleet.number; punt++) {
        stepOn(punt);
      }
      hour++;
      return came;
    }

    private boolean hasLanded(int punt) {
      return cell.get(punt) == landings.cell.get(bound.get(punt));
    }

    private int turnRound(int punt) {
      int landing = bound.get(punt);
      int came = travellers.getOut(punt, landing, hour);
      bound.set(punt, fleet.otherEnd(punt, landing));
      load(punt, landing);
      return came;
    }

    private void load(int punt, int landing) {
      int toll = fleet.toll.get(punt);
      int places = fleet.room.get(punt);
      for (int traveller = 0; traveller < travellers.number && places > 0; traveller++) {
        if (takes(traveller, punt, landing) && travellers.purse.get(traveller) >= toll) {
          travellers.getIn(traveller, punt, toll);
          takings.add(punt, toll);
          places--;
        }
      }
    }

    private boolean takes(int traveller, int punt, int landing) {
      return travellers.waitsAt(traveller, landing)
          && chains.firstPunt(landing, travellers.wish.get(traveller)) == punt;
    }

    // The chart knows no way for a punt that is aground, and no next step for one that is there.
    private void stepOn(int punt) {
      int chart = charts.chartOf(punt, bound.get(punt), level());
      int next = charts.nextStep(chart, cell.get(punt));
      if (next != NONE) {
        cell.set(punt, next);
        steps.add(punt, 1);
      }
    }
  }
}
