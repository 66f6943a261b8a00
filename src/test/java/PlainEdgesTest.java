/**
 * The boundary cases of the plain, its water and its stakes: "Terms" and the promises 1 to 5. Each
 * test bears the sentence of the document that it holds to.
 */
final class PlainEdgesTest {
  private static final int[][] CORNERS = {{0, 0}, {13, 0}, {0, 13}, {13, 13}};

  public static void main(String[] args) {
    theLastOf512Calls();
    hoursOf512Calls();
    timeFromZero();
    nothingThereYet();
    nothingToCallUpon();
    fiveAtFirst();
    eightAtFirst();
    columnsAndRows();
    cellsByTheirNumbers();
    groundFromZeroToTwenty();
    groundRefused();
    newGroundLeavesAllElse();
    hoursOfTheTable();
    levelFromZeroToTwentyFour();
    waterRefused();
    theTableGoesRound();
    afterALeap();
    setAtTheHourBehindTheLast();
    depthIsAtLeastZero();
    noSideBySideRoundTheEdge();
    shutInCorners();
    stakeLengths();
    stakeRefused();
    stakeSeenIfDepthIsLess();
    noStakeIsNeverSeen();
    stakesEverywhere();
    aStakeIsNothingToAllElse();
    landingOfACell();
    puntsOnACell();
    Check.end();
  }

  /** "An object is used for at most 512 calls": the last of them is answered like the first. */
  private static void theLastOf512Calls() {
    FloodFerry ferry = new FloodFerry();
    int before = 5;
    for (int call = 1; call <= 512; call++) {
      int ground = call % 21;
      Check.due("setGround as the call " + call, ferry.setGround(13, 13, ground), before);
      before = ground;
    }
  }

  /** The same, with as many hours as can be: the table still goes round. */
  private static void hoursOf512Calls() {
    FloodFerry ferry = new FloodFerry();
    ferry.setWater(8, 17);
    for (int call = 2; call <= 510; call++) {
      ferry.pass(100);
    }
    Check.due("the hour after 509 times 100", ferry.count(0), 50900);
    Check.due("50900 is 4241 * 12 + 8", ferry.count(1), 17);
  }

  /** "Time is told in hours, from 0." */
  private static void timeFromZero() {
    FloodFerry ferry = new FloodFerry();
    Check.due("the first hour", ferry.count(0), 0);
    ferry.pass(1);
    Check.due("the second hour", ferry.count(0), 1);
  }

  /** "Creates a plain without stakes, landings and punts, at the hour 0." */
  private static void nothingThereYet() {
    FloodFerry ferry = new FloodFerry();
    int[] counts = {0, 8, 0, 0, 0, 0, 0, 0, 0, 0, 0};
    for (int what = 0; what < counts.length; what++) {
      Check.due("new: count(" + what + ")", ferry.count(what), counts[what]);
    }
    Check.due("new: a stake on dry ground", stakesOnDryGround(ferry), 0);
    for (int[] corner : CORNERS) {
      Check.due("new: landing", ferry.cell(corner[0], corner[1], 4), -1);
      Check.due("new: punts", ferry.cell(corner[0], corner[1], 5), 0);
    }
    Check.due("new: pass(100)", ferry.pass(100), 0);
    Check.due("new: then the hour", ferry.count(0), 100);
  }

  private static int stakesOnDryGround(FloodFerry ferry) {
    ferry.setWater(0, 0);
    int stakes = ferry.count(10);
    ferry.setWater(0, 8);
    return stakes;
  }

  /** The same: there is no landing, punt or traveller to call upon. */
  private static void nothingToCallUpon() {
    FloodFerry ferry = new FloodFerry();
    Check.index("new: launch", ferry, () -> ferry.launch(0, 1, 1, 2, 1, 0));
    Check.index("new: setToll", ferry, () -> ferry.setToll(0, 0));
    Check.index("new: punt", ferry, () -> ferry.punt(0, 0));
    Check.index("new: addTraveller", ferry, () -> ferry.addTraveller(0, 1, 0));
    Check.index("new: traveller", ferry, () -> ferry.traveller(0, 0));
    Check.index("new: landing", ferry, () -> ferry.landing(0, 0));
    Check.index("new: crossing", ferry, () -> ferry.crossing(0, 8));
    Check.index("new: opens", ferry, () -> ferry.opens(0));
    Check.index("new: chain", ferry, () -> ferry.chain(0, 0, 0));
    Check.index("new: aground", ferry, () -> ferry.aground(0, 1));
    Check.index("new: arrives", ferry, () -> ferry.arrives(0));
  }

  /** "Each has a ground, 0 to 20 (5, at first)." */
  private static void fiveAtFirst() {
    FloodFerry ferry = new FloodFerry();
    for (int cell = 0; cell < 196; cell++) {
      Check.due("ground at first", ferry.cell(cell % 14, cell / 14, 0), 5);
      Check.due("ground before", ferry.setGround(cell % 14, cell / 14, 6), 5);
    }
  }

  /** "0 to 24 (8, at first, in all)". */
  private static void eightAtFirst() {
    FloodFerry ferry = new FloodFerry();
    for (int hour = 0; hour < 12; hour++) {
      Check.due("level before, hour " + hour, ferry.setWater(hour, 9), 8);
    }
    FloodFerry other = new FloodFerry();
    for (int hour = 0; hour <= 12; hour++) {
      Check.due("level at the hour " + hour, other.count(1), 8);
      other.pass(1);
    }
  }

  /** "The plain has 14 columns, x, 0 to 13, and 14 rows, y, 0 to 13". */
  private static void columnsAndRows() {
    FloodFerry ferry = new FloodFerry();
    for (int corner = 0; corner < 4; corner++) {
      Check.due("ground before", ferry.setGround(CORNERS[corner][0], CORNERS[corner][1], 10 + corner), 5);
      Check.due("stake before", ferry.setStake(CORNERS[corner][0], CORNERS[corner][1], 1 + corner), 0);
      Check.due("landing", ferry.addLanding(CORNERS[corner][0], CORNERS[corner][1]), corner);
    }
    for (int corner = 0; corner < 4; corner++) {
      Check.due("ground", ferry.cell(CORNERS[corner][0], CORNERS[corner][1], 0), 10 + corner);
      Check.due("stake", ferry.cell(CORNERS[corner][0], CORNERS[corner][1], 2), 1 + corner);
      Check.due("landing", ferry.cell(CORNERS[corner][0], CORNERS[corner][1], 4), corner);
    }
    for (int[] no : new int[][] {{-1, 0}, {14, 0}, {0, -1}, {0, 14}, {-1, 14}, {14, -1}}) {
      Check.index("no such cell: setGround", ferry, () -> ferry.setGround(no[0], no[1], 5));
      Check.index("no such cell: setStake", ferry, () -> ferry.setStake(no[0], no[1], 5));
      Check.index("no such cell: cell", ferry, () -> ferry.cell(no[0], no[1], 0));
      Check.index("no such cell: addLanding", ferry, () -> ferry.addLanding(no[0], no[1]));
    }
  }

  /** "the cell x + 14 * y": digest() tells the cells in this order. */
  private static void cellsByTheirNumbers() {
    for (int[] of : new int[][] {{0, 0}, {1, 0}, {13, 0}, {0, 1}, {12, 13}, {13, 13}}) {
      FloodFerry ferry = new FloodFerry();
      ferry.setGround(of[0], of[1], 20);
      ferry.setStake(of[0], of[1], 9);
      Check.due("digest()", ferry.digest(), digestWith(of[0] + 14 * of[1], 20, 9));
    }
  }

  private static long digestWith(int oneCell, int ground, int stake) {
    long sum = 557 * 31L;
    sum = sum * 31 + 8;
    for (int what = 2; what <= 9; what++) {
      sum = sum * 31;
    }
    sum = sum * 31 + 1;
    for (int hour = 0; hour < 12; hour++) {
      sum = sum * 31 + 8;
    }
    for (int cell = 0; cell < 196; cell++) {
      sum = sum * 31 + (cell == oneCell ? ground : 5);
      sum = sum * 31 + (cell == oneCell ? stake : 0);
    }
    return sum;
  }

  /** "ground: the ground that it has from now on. Returns the ground before." */
  private static void groundFromZeroToTwenty() {
    FloodFerry ferry = new FloodFerry();
    Check.due("ground before", ferry.setGround(6, 7, 0), 5);
    Check.due("the lowest ground", ferry.cell(6, 7, 0), 0);
    Check.due("ground before", ferry.setGround(6, 7, 20), 0);
    Check.due("the highest ground", ferry.cell(6, 7, 0), 20);
    Check.due("the same again", ferry.setGround(6, 7, 20), 20);
    Check.due("the cell above", ferry.cell(6, 6, 0), 5);
    Check.due("the cell beside", ferry.cell(7, 7, 0), 5);
    Check.due("the cell with x and y changed", ferry.cell(7, 6, 0), 5);
  }

  /** "Throws IllegalArgumentException if ground is not 0 to 20", behind the cell. */
  private static void groundRefused() {
    FloodFerry ferry = new FloodFerry();
    ferry.setGround(6, 7, 11);
    Check.argument("ground -1", ferry, () -> ferry.setGround(6, 7, -1));
    Check.argument("ground 21", ferry, () -> ferry.setGround(6, 7, 21));
    Check.argument("ground of the last cell", ferry, () -> ferry.setGround(13, 13, 21));
    Check.index("no cell, and ground -1", ferry, () -> ferry.setGround(6, 14, -1));
    Check.index("no cell, and ground 21", ferry, () -> ferry.setGround(-1, 7, 21));
    Check.due("ground before is as it was", ferry.setGround(6, 7, 12), 11);
  }

  /** The same: its stake, its landing and the punts there stay, whatever the ground is. */
  private static void newGroundLeavesAllElse() {
    FloodFerry ferry = ferryBetween(13, 6, 12, 6);
    ferry.setStake(13, 6, 7);
    for (int round = 0; round <= 41; round++) {
      int ground = round <= 20 ? round : 41 - round;
      ferry.setGround(13, 6, ground);
      int depth = Math.max(0, 8 - ground);
      int[] answers = {ground, depth, 7, depth < 7 ? 1 : 0, 0, 1};
      for (int what = 0; what < answers.length; what++) {
        String call = "ground " + ground + ": cell(13, 6, " + what + ")";
        Check.due(call, ferry.cell(13, 6, what), answers[what]);
      }
      Check.due("ground " + ground + ": crossing", ferry.crossing(0, 8), depth > 0 ? 1 : -1);
    }
  }

  /** "hour: an hour of the table, 0 to 11". */
  private static void hoursOfTheTable() {
    FloodFerry ferry = new FloodFerry();
    Check.due("level before, hour 0", ferry.setWater(0, 1), 8);
    Check.due("level before, hour 11", ferry.setWater(11, 2), 8);
    Check.due("level before, hour 0", ferry.setWater(0, 3), 1);
    Check.due("level before, hour 11", ferry.setWater(11, 4), 2);
    Check.due("level before, hour 1", ferry.setWater(1, 5), 8);
    Check.due("level before, hour 10", ferry.setWater(10, 6), 8);
  }

  /** "level ... 0 to 24": "Returns the level before." */
  private static void levelFromZeroToTwentyFour() {
    FloodFerry ferry = new FloodFerry();
    Check.due("level before", ferry.setWater(0, 0), 8);
    Check.due("the lowest water", ferry.count(1), 0);
    Check.due("level before", ferry.setWater(0, 24), 0);
    Check.due("the highest water", ferry.count(1), 24);
    Check.due("the same again", ferry.setWater(0, 24), 24);
  }

  /** "Throws IndexOutOfBoundsException if hour is not 0 to 11", then "if level is not 0 to 24". */
  private static void waterRefused() {
    FloodFerry ferry = new FloodFerry();
    ferry.setWater(0, 7);
    ferry.setWater(11, 9);
    Check.index("hour -1", ferry, () -> ferry.setWater(-1, 0));
    Check.index("hour 12, though hours go on", ferry, () -> ferry.setWater(12, 0));
    Check.argument("level -1", ferry, () -> ferry.setWater(0, -1));
    Check.argument("level 25", ferry, () -> ferry.setWater(11, 25));
    Check.index("hour -1 and level -1", ferry, () -> ferry.setWater(-1, -1));
    Check.index("hour 12 and level 25", ferry, () -> ferry.setWater(12, 25));
    Check.due("level before is as it was", ferry.setWater(0, 7), 7);
    Check.due("level before is as it was", ferry.setWater(11, 9), 9);
  }

  /** "at the hour h it is that with the number h by the remainder of 12". */
  private static void theTableGoesRound() {
    FloodFerry ferry = new FloodFerry();
    for (int hour = 0; hour < 12; hour++) {
      ferry.setWater(hour, 10 + hour);
    }
    for (int hour = 0; hour <= 37; hour++) {
      Check.due("level at the hour " + hour, ferry.count(1), 10 + hour % 12);
      Check.due("depth at the hour " + hour, ferry.cell(3, 3, 1), 5 + hour % 12);
      Check.due("mean() at the hour " + hour, ferry.mean(), 5.0 + hour % 12);
      ferry.pass(1);
    }
  }

  /** The same, behind many hours at once. */
  private static void afterALeap() {
    FloodFerry ferry = new FloodFerry();
    for (int hour = 0; hour < 12; hour++) {
      ferry.setWater(hour, 12 + hour);
    }
    int hour = 0;
    for (int leap : new int[] {11, 1, 11, 1, 12, 59, 96, 100, 13}) {
      ferry.pass(leap);
      hour += leap;
      Check.due("level at the hour " + hour, ferry.count(1), 12 + hour % 12);
    }
  }

  /** The same: the hour 12 has the water of the hour 0, whatever that is by then. */
  private static void setAtTheHourBehindTheLast() {
    FloodFerry ferry = new FloodFerry();
    ferry.pass(11);
    ferry.setWater(0, 20);
    Check.due("the hour 11 keeps its level", ferry.count(1), 8);
    ferry.pass(1);
    Check.due("the hour 12 has that of the hour 0", ferry.count(1), 20);
    ferry.setWater(0, 3);
    Check.due("which can be set in it", ferry.count(1), 3);
    ferry.setWater(11, 19);
    Check.due("and not by the hour 11", ferry.count(1), 3);
    ferry.pass(11);
    Check.due("the hour 23 has that of the hour 11", ferry.count(1), 19);
  }

  /** "The depth of a cell is the level less its ground, but at least 0." */
  private static void depthIsAtLeastZero() {
    for (int level = 0; level <= 24; level++) {
      FloodFerry ferry = new FloodFerry();
      ferry.setWater(0, level);
      for (int ground = 0; ground <= 20; ground++) {
        ferry.setGround(9, 2, ground);
        int due = level < ground ? 0 : level - ground;
        Check.due("depth over " + ground + " at " + level, ferry.cell(9, 2, 1), due);
      }
    }
  }

  /** "Side by side are cells in one row and neighbouring columns, or ..." */
  private static void noSideBySideRoundTheEdge() {
    expectCrossing(13, 0, 0, 1, 14);
    expectCrossing(13, 12, 0, 13, 14);
    expectCrossing(0, 0, 13, 0, 13);
    expectCrossing(0, 13, 13, 13, 13);
    expectCrossing(0, 0, 0, 13, 13);
    expectCrossing(13, 0, 13, 13, 13);
    expectCrossing(0, 0, 13, 13, 26);
    expectCrossing(13, 0, 0, 13, 26);
    expectCrossing(4, 4, 5, 4, 1);
    expectCrossing(4, 4, 4, 5, 1);
    expectCrossing(4, 4, 5, 5, 2);
  }

  private static void expectCrossing(int x, int y, int toX, int toY, int length) {
    String what = "from " + x + ", " + y + " to " + toX + ", " + toY;
    Check.due(what, ferryBetween(x, y, toX, toY).crossing(0, 8), length);
    Check.due(what + " and back", ferryBetween(toX, toY, x, y).crossing(0, 8), length);
  }

  private static FloodFerry ferryBetween(int x, int y, int toX, int toY) {
    FloodFerry ferry = new FloodFerry();
    ferry.addLanding(x, y);
    ferry.addLanding(toX, toY);
    ferry.launch(0, 1, 1, 12, 1, 0);
    return ferry;
  }

  /** The same: a corner has two cells beside it, and no other way out. */
  private static void shutInCorners() {
    int[][] shut = {{1, 0, 0, 1}, {12, 0, 13, 1}, {1, 13, 0, 12}, {12, 13, 13, 12}};
    for (int corner = 0; corner < 4; corner++) {
      FloodFerry ferry = ferryBetween(CORNERS[corner][0], CORNERS[corner][1], 7, 7);
      ferry.setGround(shut[corner][0], shut[corner][1], 20);
      Check.due("one cell beside the corner is dry", ferry.crossing(0, 8) > 0 ? 1 : 0, 1);
      ferry.setGround(shut[corner][2], shut[corner][3], 20);
      Check.due("both are", ferry.crossing(0, 8), -1);
    }
  }

  /** "A cell can have a stake of a length, 1 to 9"; "length: its length, 0 for none". */
  private static void stakeLengths() {
    FloodFerry ferry = new FloodFerry();
    Check.due("none before", ferry.setStake(13, 12, 1), 0);
    Check.due("the shortest", ferry.cell(13, 12, 2), 1);
    Check.due("length before", ferry.setStake(13, 12, 9), 1);
    Check.due("the longest", ferry.cell(13, 12, 2), 9);
    Check.due("length before", ferry.setStake(13, 12, 0), 9);
    Check.due("taken away", ferry.cell(13, 12, 2), 0);
    Check.due("none to take away", ferry.setStake(13, 12, 0), 0);
    Check.due("the cell with x and y changed", ferry.cell(12, 13, 2), 0);
  }

  /** "Throws IllegalArgumentException if length is not 0 to 9", behind the cell. */
  private static void stakeRefused() {
    FloodFerry ferry = new FloodFerry();
    ferry.setStake(0, 13, 4);
    Check.argument("length -1", ferry, () -> ferry.setStake(0, 13, -1));
    Check.argument("length 10", ferry, () -> ferry.setStake(0, 13, 10));
    Check.index("no cell, and length -1", ferry, () -> ferry.setStake(0, 14, -1));
    Check.index("no cell, and length 10", ferry, () -> ferry.setStake(-1, 13, 10));
    Check.due("length before is as it was", ferry.setStake(0, 13, 4), 4);
    Check.due("and is to be seen", ferry.count(10), 1);
  }

  /** "it is to be seen, if the depth is less than its length". */
  private static void stakeSeenIfDepthIsLess() {
    for (int length = 1; length <= 9; length++) {
      FloodFerry ferry = new FloodFerry();
      ferry.setGround(2, 11, 3);
      ferry.setStake(2, 11, length);
      for (int level = 0; level <= 24; level++) {
        ferry.setWater(0, level);
        int due = Math.max(0, level - 3) < length ? 1 : 0;
        String what = "a stake of " + length + " over 3 at " + level;
        Check.due(what + " is to be seen", ferry.cell(2, 11, 3), due);
        Check.due(what + " is counted", ferry.count(10), due);
      }
    }
  }

  /** The same for no stake, even where the ground is above the water. */
  private static void noStakeIsNeverSeen() {
    FloodFerry ferry = new FloodFerry();
    ferry.setGround(2, 11, 20);
    for (int level = 0; level <= 24; level++) {
      ferry.setWater(0, level);
      Check.due("no stake at " + level, ferry.cell(2, 11, 3), 0);
      Check.due("no stakes at " + level, ferry.count(10), 0);
    }
  }

  /** "A cell can have a stake": as many as can be. */
  private static void stakesEverywhere() {
    FloodFerry ferry = new FloodFerry();
    for (int cell = 0; cell < 196; cell++) {
      ferry.setStake(cell % 14, cell / 14, 4);
    }
    Check.due("at the depth 3", ferry.count(10), 196);
    ferry.setWater(1, 9);
    ferry.pass(1);
    Check.due("at the depth 4", ferry.count(10), 0);
    ferry.setGround(13, 13, 6);
    Check.due("at the depth 3 in one cell", ferry.count(10), 1);
  }

  /** "stakes mark the ground": a landing can be built there, and punts go over it. */
  private static void aStakeIsNothingToAllElse() {
    FloodFerry ferry = new FloodFerry();
    for (int x = 2; x <= 4; x++) {
      ferry.setStake(x, 3, 9);
    }
    Check.due("a landing where a stake is", ferry.addLanding(2, 3), 0);
    Check.due("a landing where a stake is", ferry.addLanding(4, 3), 1);
    ferry.launch(0, 1, 1, 12, 1, 0);
    ferry.setStake(2, 3, 8);
    Check.due("a stake where a landing is", ferry.cell(2, 3, 2), 8);
    Check.due("the way goes over stakes", ferry.crossing(0, 8), 2);
    ferry.pass(2);
    Check.due("and so does the punt", ferry.punt(0, 0) * 100 + ferry.punt(0, 1), 403);
    Check.due("it is not aground", ferry.punt(0, 5), 0);
    Check.due("all are to be seen", ferry.count(10), 3);
  }

  /** "4 its landing, -1 if there is none". */
  private static void landingOfACell() {
    FloodFerry ferry = new FloodFerry();
    Check.due("no landing at all", ferry.cell(0, 0, 4), -1);
    for (int landing = 0; landing < 8; landing++) {
      ferry.addLanding(13 - landing, landing);
    }
    Check.due("the first one", ferry.cell(13, 0, 4), 0);
    Check.due("the last one", ferry.cell(6, 7, 4), 7);
    Check.due("none on the cell with the number 0", ferry.cell(0, 0, 4), -1);
    Check.due("none on the cell with x and y changed", ferry.cell(0, 13, 4), -1);
  }

  /** "5 punts there": none, and as many as can be. */
  private static void puntsOnACell() {
    FloodFerry ferry = new FloodFerry();
    Check.due("no punt at all", ferry.cell(0, 0, 5), 0);
    ferry.addLanding(13, 13);
    ferry.addLanding(12, 13);
    for (int punt = 0; punt < 6; punt++) {
      Check.due("punts at their home", ferry.cell(13, 13, 5), punt);
      ferry.launch(0, 1, 1, 12, 1, 0);
    }
    Check.due("all punts at their home", ferry.cell(13, 13, 5), 6);
    Check.due("none on the cell with the number 0", ferry.cell(0, 0, 5), 0);
    ferry.pass(1);
    Check.due("none is there any more", ferry.cell(13, 13, 5), 0);
    Check.due("all punts at their goal", ferry.cell(12, 13, 5), 6);
  }
}
