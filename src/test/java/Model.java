import java.util.ArrayDeque;
import java.util.ArrayList;
import java.util.List;

/** The document once more, in another way and without regard to speed, for ModelTest. */
final class Model {
  private static final int SIDE = 14;
  private static final int CELLS = SIDE * SIDE;
  private static final int TABLE_HOURS = 12;

  private static final class Punt {
    int home, goal, draught, pole, room, toll, x, y, bound, taken, steps;
  }

  private static final class Traveller {
    int wish, purse, landing, punt = -1, hour = -1;
  }

  private int hour;
  private final int[] table = new int[TABLE_HOURS];
  private final int[][] ground = new int[SIDE][SIDE];
  private final int[][] stake = new int[SIDE][SIDE];
  private final List<int[]> landings = new ArrayList<>();
  private final List<Punt> punts = new ArrayList<>();
  private final List<Traveller> travellers = new ArrayList<>();

  Model() {
    java.util.Arrays.fill(table, 8);
    for (int[] column : ground) {
      java.util.Arrays.fill(column, 5);
    }
  }

  private Model copy() {
    Model copy = new Model();
    copy.hour = hour;
    System.arraycopy(table, 0, copy.table, 0, TABLE_HOURS);
    for (int x = 0; x < SIDE; x++) {
      System.arraycopy(ground[x], 0, copy.ground[x], 0, SIDE);
    }
    copy.landings.addAll(landings);
    for (Punt punt : punts) {
      Punt other = new Punt();
      other.home = punt.home;
      other.goal = punt.goal;
      other.draught = punt.draught;
      other.pole = punt.pole;
      other.room = punt.room;
      other.toll = punt.toll;
      other.x = punt.x;
      other.y = punt.y;
      other.bound = punt.bound;
      copy.punts.add(other);
    }
    for (Traveller traveller : travellers) {
      Traveller other = new Traveller();
      other.wish = traveller.wish;
      other.purse = traveller.purse;
      other.landing = traveller.landing;
      other.punt = traveller.punt;
      other.hour = traveller.hour;
      copy.travellers.add(other);
    }
    return copy;
  }

  // ---- what a call needs

  private static void index(boolean holds) {
    if (!holds) {
      throw new IndexOutOfBoundsException();
    }
  }

  private static void argument(boolean holds) {
    if (!holds) {
      throw new IllegalArgumentException();
    }
  }

  private static void state(boolean holds) {
    if (!holds) {
      throw new IllegalStateException();
    }
  }

  private static boolean within(int number, int least, int most) {
    return least <= number && number <= most;
  }

  private static boolean isCell(int x, int y) {
    return within(x, 0, 13) && within(y, 0, 13);
  }

  private boolean isLanding(int landing) {
    return within(landing, 0, landings.size() - 1);
  }

  private boolean isPunt(int punt) {
    return within(punt, 0, punts.size() - 1);
  }

  private boolean isTraveller(int traveller) {
    return within(traveller, 0, travellers.size() - 1);
  }

  // ---- the public face

  int setGround(int x, int y, int itsGround) {
    index(isCell(x, y));
    argument(within(itsGround, 0, 20));
    int before = ground[x][y];
    ground[x][y] = itsGround;
    return before;
  }

  int setWater(int tableHour, int level) {
    index(within(tableHour, 0, 11));
    argument(within(level, 0, 24));
    int before = table[tableHour];
    table[tableHour] = level;
    return before;
  }

  int setStake(int x, int y, int length) {
    index(isCell(x, y));
    argument(within(length, 0, 9));
    int before = stake[x][y];
    stake[x][y] = length;
    return before;
  }

  int cell(int x, int y, int what) {
    index(isCell(x, y) && within(what, 0, 5));
    int depth = depth(x, y, level());
    switch (what) {
      case 0: return ground[x][y];
      case 1: return depth;
      case 2: return stake[x][y];
      case 3: return stake[x][y] > 0 && depth < stake[x][y] ? 1 : 0;
      case 4: return landingOn(x, y);
      default: return (int) punts.stream().filter(p -> p.x == x && p.y == y).count();
    }
  }

  private int landingOn(int x, int y) {
    for (int landing = 0; landing < landings.size(); landing++) {
      if (landings.get(landing)[0] == x && landings.get(landing)[1] == y) {
        return landing;
      }
    }
    return -1;
  }

  int addLanding(int x, int y) {
    index(isCell(x, y));
    state(landingOn(x, y) == -1 && landings.size() < 8);
    landings.add(new int[] {x, y});
    return landings.size() - 1;
  }

  int launch(int home, int goal, int draught, int pole, int room, int toll) {
    index(isLanding(home) && isLanding(goal));
    argument(home != goal && within(draught, 1, 4) && within(pole, 2, 12));
    argument(within(room, 1, 6) && within(toll, 0, 50));
    state(punts.size() < 6);
    Punt punt = new Punt();
    punt.home = home;
    punt.goal = goal;
    punt.draught = draught;
    punt.pole = pole;
    punt.room = room;
    punt.toll = toll;
    punt.x = landings.get(home)[0];
    punt.y = landings.get(home)[1];
    punt.bound = goal;
    punts.add(punt);
    return punts.size() - 1;
  }

  int setToll(int punt, int toll) {
    index(isPunt(punt));
    argument(within(toll, 0, 50));
    int before = punts.get(punt).toll;
    punts.get(punt).toll = toll;
    return before;
  }

  int punt(int number, int what) {
    index(isPunt(number) && within(what, 0, 8));
    Punt punt = punts.get(number);
    switch (what) {
      case 0: return punt.x;
      case 1: return punt.y;
      case 2: return punt.bound;
      case 3: return (int) travellers.stream().filter(t -> t.punt == number).count();
      case 4: return punt.toll;
      case 5: return floats(punt, punt.x, punt.y, level()) ? 0 : 1;
      case 6: return way(punt, punt.x, punt.y, punt.bound, level())[0];
      case 7: return punt.taken;
      default: return punt.steps;
    }
  }

  int addTraveller(int from, int to, int purse) {
    index(isLanding(from) && isLanding(to));
    argument(from != to && within(purse, 0, 1000));
    state(travellers.size() < 30);
    Traveller traveller = new Traveller();
    traveller.wish = to;
    traveller.purse = purse;
    traveller.landing = from;
    travellers.add(traveller);
    return travellers.size() - 1;
  }

  int traveller(int number, int what) {
    index(isTraveller(number) && within(what, 0, 6));
    Traveller traveller = travellers.get(number);
    switch (what) {
      case 0: return traveller.wish;
      case 1: return traveller.purse;
      case 2: return traveller.punt >= 0 ? -1 : traveller.landing;
      case 3: return traveller.punt;
      case 4: return traveller.hour >= 0 ? 1 : 0;
      case 5: return chainYet(traveller);
      default: return traveller.hour;
    }
  }

  private int chainYet(Traveller traveller) {
    if (traveller.hour >= 0) {
      return 0;
    }
    if (traveller.punt < 0) {
      return chain(traveller.landing, traveller.wish)[0];
    }
    int rest = chain(punts.get(traveller.punt).bound, traveller.wish)[0];
    return rest < 0 ? -1 : 1 + rest;
  }

  int landing(int number, int what) {
    index(isLanding(number) && within(what, 0, 4));
    switch (what) {
      case 0: return landings.get(number)[0];
      case 1: return landings.get(number)[1];
      case 2: return (int) travellers.stream()
          .filter(t -> t.punt < 0 && t.hour < 0 && t.landing == number).count();
      case 3: return (int) travellers.stream().filter(t -> t.hour >= 0 && t.wish == number).count();
      default: return (int) punts.stream()
          .filter(p -> p.home == number || p.goal == number).count();
    }
  }

  int pass(int hours) {
    argument(within(hours, 1, 100));
    int came = 0;
    for (int gone = 0; gone < hours; gone++) {
      came += hour();
    }
    return came;
  }

  int count(int what) {
    index(within(what, 0, 10));
    switch (what) {
      case 0: return hour;
      case 1: return level();
      case 2: return landings.size();
      case 3: return punts.size();
      case 4: return travellers.size();
      case 5: return (int) travellers.stream().filter(t -> t.punt < 0 && t.hour < 0).count();
      case 6: return (int) travellers.stream().filter(t -> t.punt >= 0).count();
      case 7: return (int) travellers.stream().filter(t -> t.hour >= 0).count();
      case 8: return punts.stream().mapToInt(p -> p.taken).sum();
      case 9: return (int) punts.stream().filter(p -> !floats(p, p.x, p.y, level())).count();
      default: return stakesSeen();
    }
  }

  private int stakesSeen() {
    int seen = 0;
    for (int x = 0; x < SIDE; x++) {
      for (int y = 0; y < SIDE; y++) {
        seen += cell(x, y, 3);
      }
    }
    return seen;
  }

  int crossing(int number, int level) {
    index(isPunt(number));
    argument(within(level, 0, 24));
    Punt punt = punts.get(number);
    int[] home = landings.get(punt.home);
    return way(punt, home[0], home[1], punt.goal, level)[0];
  }

  int opens(int number) {
    index(isPunt(number));
    int level = 0;
    while (level <= 24 && crossing(number, level) < 0) {
      level++;
    }
    return level <= 24 ? level : -1;
  }

  int chain(int from, int to, int what) {
    index(isLanding(from) && isLanding(to) && within(what, 0, 2));
    return chain(from, to)[what];
  }

  int aground(int number, int hours) {
    index(isPunt(number));
    argument(within(hours, 1, 100));
    Model later = copy();
    for (int behind = 0; behind <= hours; behind++) {
      if (later.punt(number, 5) == 1) {
        return behind;
      }
      later.hour();
    }
    return -1;
  }

  int arrives(int number) {
    index(isTraveller(number));
    if (travellers.get(number).hour >= 0) {
      return travellers.get(number).hour;
    }
    Model later = copy();
    for (int behind = 0; behind < 400; behind++) {
      later.hour();
      if (later.travellers.get(number).hour >= 0) {
        return later.travellers.get(number).hour;
      }
    }
    return -1;
  }

  double mean() {
    double sum = 0;
    for (int x = 0; x < SIDE; x++) {
      for (int y = 0; y < SIDE; y++) {
        sum += cell(x, y, 1);
      }
    }
    return sum / CELLS;
  }

  long digest() {
    long sum = 557;
    for (int what = 0; what <= 10; what++) {
      sum = sum * 31 + count(what);
    }
    for (int level : table) {
      sum = sum * 31 + level;
    }
    for (int cell = 0; cell < CELLS; cell++) {
      sum = sum * 31 + ground[cell % SIDE][cell / SIDE];
      sum = sum * 31 + stake[cell % SIDE][cell / SIDE];
    }
    for (int number = 0; number < landings.size() * 5; number++) {
      sum = sum * 31 + landing(number / 5, number % 5);
    }
    for (int number = 0; number < punts.size() * 9; number++) {
      sum = sum * 31 + punt(number / 9, number % 9);
    }
    for (int number = 0; number < travellers.size() * 7; number++) {
      sum = sum * 31 + traveller(number / 7, number % 7);
    }
    return sum;
  }

  // ---- water and ways

  private int level() {
    return table[hour % TABLE_HOURS];
  }

  private int depth(int x, int y, int level) {
    return level < ground[x][y] ? 0 : level - ground[x][y];
  }

  private boolean floats(Punt punt, int x, int y, int level) {
    int depth = depth(x, y, level);
    return punt.draught <= depth && depth <= punt.pole;
  }

  /**
   * How long the way is, and the cell of its first step, found forward from the start: each cell
   * keeps the smallest first step with which it is reached soonest.
   */
  private int[] way(Punt punt, int x, int y, int landing, int level) {
    int end = landings.get(landing)[0] + SIDE * landings.get(landing)[1];
    int start = x + SIDE * y;
    if (!floats(punt, x, y, level)) {
      return new int[] {-1, -1};
    }
    int[] steps = new int[CELLS];
    int[] first = new int[CELLS];
    java.util.Arrays.fill(steps, -1);
    java.util.Arrays.fill(first, 999);
    steps[start] = 0;
    ArrayDeque<Integer> open = new ArrayDeque<>();
    open.add(start);
    while (!open.isEmpty()) {
      int here = open.remove();
      for (int there : new int[] {here - SIDE, here - 1, here + 1, here + SIDE}) {
        if (there < 0 || there >= CELLS) {
          continue;
        }
        boolean besides = Math.abs(there % SIDE - here % SIDE) + Math.abs(there / SIDE - here / SIDE) == 1;
        if (besides && floats(punt, there % SIDE, there / SIDE, level)) {
          if (steps[there] < 0) {
            steps[there] = steps[here] + 1;
            open.add(there);
          }
          if (steps[there] == steps[here] + 1) {
            first[there] = Math.min(first[there], here == start ? there : first[here]);
          }
        }
      }
    }
    return new int[] {steps[end], steps[end] > 0 ? first[end] : -1};
  }

  // ---- chains, by trying all of them

  private int[] chain(int from, int to) {
    int[] best = {-1, -1, -1};
    if (from == to) {
      return new int[] {0, -1, 0};
    }
    for (int most = 1; most <= punts.size() && best[0] < 0; most++) {
      tryChains(from, to, most, 0, -1, 0, best);
    }
    return best;
  }

  private void tryChains(int at, int to, int left, int length, int first, int tolls, int[] best) {
    if (at == to) {
      if (best[0] < 0 || length == best[0]) {
        best[1] = best[0] < 0 ? first : Math.min(best[1], first);
        best[2] = best[0] < 0 ? tolls : Math.min(best[2], tolls);
        best[0] = length;
      }
      return;
    }
    for (int number = 0; number < punts.size() && left > 0; number++) {
      Punt punt = punts.get(number);
      if (punt.home == at || punt.goal == at) {
        int next = punt.home + punt.goal - at;
        tryChains(next, to, left - 1, length + 1, first < 0 ? number : first, tolls + punt.toll, best);
      }
    }
  }

  // ---- an hour

  private int hour() {
    int came = 0;
    for (int number = 0; number < punts.size(); number++) {
      Punt punt = punts.get(number);
      int[] end = landings.get(punt.bound);
      if (punt.x == end[0] && punt.y == end[1]) {
        came += land(number, punt);
      }
    }
    for (Punt punt : punts) {
      int step = way(punt, punt.x, punt.y, punt.bound, level())[1];
      if (step >= 0) {
        punt.x = step % SIDE;
        punt.y = step / SIDE;
        punt.steps++;
      }
    }
    hour++;
    return came;
  }

  private int land(int number, Punt punt) {
    int came = 0;
    int here = punt.bound;
    for (Traveller traveller : travellers) {
      if (traveller.punt == number) {
        traveller.punt = -1;
        traveller.landing = here;
        if (traveller.wish == here) {
          traveller.hour = hour;
          came++;
        }
      }
    }
    punt.bound = punt.home + punt.goal - here;
    int aboard = 0;
    for (Traveller traveller : travellers) {
      boolean waits = traveller.punt < 0 && traveller.hour < 0 && traveller.landing == here;
      if (waits && aboard < punt.room && traveller.purse >= punt.toll
          && chain(here, traveller.wish)[1] == number) {
        traveller.purse -= punt.toll;
        punt.taken += punt.toll;
        traveller.punt = number;
        aboard++;
      }
    }
    return came;
  }
}
