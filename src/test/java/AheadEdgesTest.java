/**
 * The boundary cases of ways, chains and looking ahead: "Terms" and the promises 15 to 21. Each test
 * bears the sentence of the document that it holds to.
 */
final class AheadEdgesTest {
  public static void main(String[] args) {
    crossingRefused();
    crossingAtTheFirstAndTheLastLevel();
    crossingOnItsDraughtAndItsPole();
    crossingNeedsBothEnds();
    crossingWhateverIsNow();
    crossingInAnyOrder();
    noCrossingRoundTheEdge();
    theHighestWaterAndTheLowest();
    opensRefused();
    opensAtTheFirstLevel();
    opensAtTheLastLevel();
    opensAtNone();
    opensAtTheLeastOfMany();
    opensOnBothSidesOfAGap();
    chainRefused();
    chainOfNoPunts();
    chainToTheSameLanding();
    chainOfOnePunt();
    chainOfSixPunts();
    chainInARing();
    chainWithTheSmallestNumber();
    chainWithTheLeastTolls();
    chainWhateverTheWaterIs();
    agroundRefused();
    agroundNow();
    agroundBehindAnHour();
    agroundBehindAHundredHours();
    agroundRoundTheTable();
    neverAground();
    arrivesRefused();
    arrivesInTheLastOf400Hours();
    arrivesInTheHourBehindThem();
    arrivesInThisHour();
    arrivesAsOneCame();
    arrivesNever();
    arrivesRoundTheTable();
    askingChangesNothing();
    meanOfNothingAndOfTheMost();
    meanIsNotCut();
    digestOfNothing();
    digestOfTheMost();
    digestShowsEachCall();
    Check.end();
  }

  private static FloodFerry ferryBetween(int x, int y, int toX, int toY) {
    FloodFerry ferry = new FloodFerry();
    ferry.addLanding(x, y);
    ferry.addLanding(toX, toY);
    ferry.launch(0, 1, 1, 12, 1, 0);
    return ferry;
  }

  private static FloodFerry withEightLandings() {
    FloodFerry ferry = new FloodFerry();
    for (int landing = 0; landing < 8; landing++) {
      ferry.addLanding(landing, 13);
    }
    return ferry;
  }

  private static void expectChain(FloodFerry ferry, int from, int to, int... answers) {
    for (int what = 0; what < 3; what++) {
      String call = "chain(" + from + ", " + to + ", " + what + ")";
      Check.due(call, ferry.chain(from, to, what), answers[what]);
    }
  }

  /** "Throws IndexOutOfBoundsException if there is no such punt", then "if level is not 0 to 24". */
  private static void crossingRefused() {
    FloodFerry ferry = ferryBetween(0, 0, 2, 0);
    Check.index("punt -1", ferry, () -> ferry.crossing(-1, 8));
    Check.index("punt 1 of 1", ferry, () -> ferry.crossing(1, 8));
    Check.argument("level -1", ferry, () -> ferry.crossing(0, -1));
    Check.argument("level 25", ferry, () -> ferry.crossing(0, 25));
    Check.index("no punt, and level -1", ferry, () -> ferry.crossing(1, -1));
    Check.index("no punt, and level 25", ferry, () -> ferry.crossing(-1, 25));
    FloodFerry empty = new FloodFerry();
    Check.index("no punts", empty, () -> empty.crossing(0, 8));
  }

  /** "a level of the water": 0 and 24. */
  private static void crossingAtTheFirstAndTheLastLevel() {
    FloodFerry ferry = ferryBetween(0, 0, 1, 0);
    Check.due("at the level 0", ferry.crossing(0, 0), -1);
    Check.due("at the level 24, too deep", ferry.crossing(0, 24), -1);
    ferry.setGround(0, 0, 12);
    ferry.setGround(1, 0, 20);
    Check.due("at the level 24, not too deep", ferry.crossing(0, 24), 1);
    ferry.setGround(0, 0, 11);
    Check.due("at the level 24, too deep by one", ferry.crossing(0, 24), -1);
    ferry.setGround(0, 0, 0);
    ferry.setGround(1, 0, 0);
    Check.due("at the level 0, no water on the lowest ground", ferry.crossing(0, 0), -1);
    Check.due("at the level 1", ferry.crossing(0, 1), 1);
  }

  /** "It floats on a cell, if the depth is at least its draught, and at most its pole." */
  private static void crossingOnItsDraughtAndItsPole() {
    FloodFerry ferry = ferryBetween(0, 0, 3, 0);
    ferry.launch(0, 1, 4, 6, 1, 0);
    ferry.launch(0, 1, 3, 3, 1, 0);
    ferry.launch(0, 1, 3, 2, 1, 0);
    for (int level = 0; level <= 24; level++) {
      int depth = level - 5;
      String at = " at the level " + level;
      Check.due("1 to 12" + at, ferry.crossing(0, level), depth >= 1 && depth <= 12 ? 3 : -1);
      Check.due("4 to 6" + at, ferry.crossing(1, level), depth >= 4 && depth <= 6 ? 3 : -1);
      Check.due("3 to 3" + at, ferry.crossing(2, level), depth == 3 ? 3 : -1);
      Check.due("3 to 2" + at, ferry.crossing(3, level), -1);
    }
  }

  /** "-1 if there is none, or it would not float at its home". */
  private static void crossingNeedsBothEnds() {
    FloodFerry home = ferryBetween(3, 3, 5, 3);
    home.setGround(3, 3, 10);
    Check.due("a dry home", home.crossing(0, 10), -1);
    Check.due("a home just deep enough", home.crossing(0, 11), 2);
    home.setGround(3, 3, 0);
    Check.due("a home just not too deep", home.crossing(0, 12), 2);
    Check.due("a home too deep", home.crossing(0, 13), -1);
    FloodFerry goal = ferryBetween(3, 3, 5, 3);
    goal.setGround(5, 3, 10);
    Check.due("a dry goal", goal.crossing(0, 10), -1);
    Check.due("a goal just deep enough", goal.crossing(0, 11), 2);
    goal.setGround(5, 3, 0);
    Check.due("a goal just not too deep", goal.crossing(0, 12), 2);
    Check.due("a goal too deep", goal.crossing(0, 13), -1);
  }

  /** "how long its way from its home to its goal would be with it": not from where it is now. */
  private static void crossingWhateverIsNow() {
    FloodFerry ferry = ferryBetween(3, 3, 6, 3);
    ferry.setWater(2, 0);
    for (int hour = 0; hour < 14; hour++) {
      Check.due("at the hour " + hour, ferry.crossing(0, 8), 3);
      Check.due("opens at the hour " + hour, ferry.opens(0), 6);
      ferry.pass(1);
    }
  }

  /** The same: whatever levels have been asked for before. */
  private static void crossingInAnyOrder() {
    FloodFerry ferry = ferryBetween(0, 0, 13, 13);
    ferry.launch(1, 0, 1, 12, 1, 0);
    for (int round = 0; round < 4; round++) {
      for (int step = 0; step <= 24; step++) {
        int level = round % 2 == 0 ? 24 - step : step;
        int due = level >= 6 && level <= 17 ? 26 : -1;
        Check.due("there at the level " + level, ferry.crossing(0, level), due);
        Check.due("back at the level " + level, ferry.crossing(1, level), due);
      }
    }
  }

  /** The plain ends with its columns and rows: no way goes round a wall through all of them. */
  private static void noCrossingRoundTheEdge() {
    FloodFerry column = ferryBetween(5, 0, 9, 13);
    FloodFerry row = ferryBetween(5, 0, 9, 13);
    for (int cell = 0; cell < 14; cell++) {
      column.setGround(7, cell, 20);
      row.setGround(cell, 7, 20);
    }
    for (int step = 0; step <= 48; step++) {
      int level = Math.abs(24 - step);
      Check.due("over a column at the level " + level, column.crossing(0, level), -1);
      Check.due("over a row at the level " + level, row.crossing(0, level), -1);
    }
  }

  /** "a level of the water": a way in the highest is none in the lowest, for the first punt to the last. */
  private static void theHighestWaterAndTheLowest() {
    FloodFerry ferry = new FloodFerry();
    ferry.addLanding(0, 0);
    ferry.addLanding(1, 0);
    ferry.setGround(0, 0, 15);
    ferry.setGround(1, 0, 15);
    ferry.setWater(0, 24);
    ferry.setWater(1, 24);
    for (int punt = 0; punt < 6; punt++) {
      ferry.launch(0, 1, 1, 12, 1, 0);
    }
    ferry.pass(2);
    for (int punt = 0; punt < 6; punt++) {
      Check.due("at the level 24", ferry.crossing(punt, 24), 1);
      Check.due("at the level 23", ferry.crossing(punt, 23), 1);
      Check.due("bound for its home", ferry.punt(punt, 2), 0);
    }
    for (int level = 0; level <= 1; level++) {
      ferry.setWater(2, level);
      for (int punt = 0; punt < 6; punt++) {
        Check.due("no way now at the level " + level, ferry.punt(punt, 6), -1);
        Check.due("no crossing at the level " + level, ferry.crossing(punt, level), -1);
      }
    }
    ferry.setWater(2, 24);
    for (int punt = 0; punt < 6; punt++) {
      Check.due("at its end at the level 24", ferry.punt(punt, 6), 0);
    }
  }

  /** "Throws IndexOutOfBoundsException if there is no such punt". */
  private static void opensRefused() {
    FloodFerry ferry = ferryBetween(0, 0, 2, 0);
    Check.index("punt -1", ferry, () -> ferry.opens(-1));
    Check.index("punt 1 of 1", ferry, () -> ferry.opens(1));
    FloodFerry empty = new FloodFerry();
    Check.index("no punts", empty, () -> empty.opens(0));
    for (int punt = 1; punt < 6; punt++) {
      ferry.launch(1, 0, 2, 12, 1, 0);
    }
    Check.due("the last of 6", ferry.opens(5), 7);
    Check.index("punt 6 of 6", ferry, () -> ferry.opens(6));
  }

  /** "the least level, 0 to 24": with the lowest ground, it is the draught. */
  private static void opensAtTheFirstLevel() {
    FloodFerry ferry = ferryBetween(0, 0, 1, 0);
    ferry.launch(0, 1, 4, 12, 1, 0);
    ferry.setGround(0, 0, 0);
    ferry.setGround(1, 0, 0);
    Check.due("draught 1", ferry.opens(0), 1);
    Check.due("draught 4", ferry.opens(1), 4);
  }

  /** The same with the highest ground: the last level, and the one before. */
  private static void opensAtTheLastLevel() {
    FloodFerry ferry = ferryBetween(0, 0, 1, 0);
    ferry.launch(0, 1, 4, 12, 1, 0);
    ferry.launch(0, 1, 3, 12, 1, 0);
    ferry.setGround(0, 0, 12);
    ferry.setGround(1, 0, 20);
    Check.due("draught 1", ferry.opens(0), 21);
    Check.due("draught 3", ferry.opens(2), 23);
    Check.due("draught 4", ferry.opens(1), 24);
  }

  /** "-1 if there is none": one level is between too little water at one end and too much at the other. */
  private static void opensAtNone() {
    FloodFerry ferry = ferryBetween(0, 0, 1, 0);
    ferry.launch(0, 1, 4, 2, 1, 0);
    Check.due("a draught above its pole", ferry.opens(1), -1);
    ferry.setGround(0, 0, 9);
    ferry.setGround(1, 0, 20);
    Check.due("21 is the least at its goal, and the most at its home", ferry.opens(0), 21);
    ferry.setGround(0, 0, 8);
    Check.due("20 is the most at its home", ferry.opens(0), -1);
    ferry.setGround(0, 0, 20);
    ferry.setGround(1, 0, 9);
    Check.due("21 is the least at its home, and the most at its goal", ferry.opens(0), 21);
    ferry.setGround(1, 0, 8);
    Check.due("20 is the most at its goal", ferry.opens(0), -1);
  }

  /** "the least level": the shortest way may need more water. */
  private static void opensAtTheLeastOfMany() {
    FloodFerry ferry = ferryBetween(0, 0, 2, 0);
    ferry.setGround(1, 0, 11);
    Check.due("round what is high", ferry.opens(0), 6);
    Check.due("on a longer way", ferry.crossing(0, 6), 4);
    Check.due("than over it", ferry.crossing(0, 12), 2);
    for (int y = 1; y < 14; y++) {
      ferry.setGround(1, y, 13);
    }
    Check.due("no way round it", ferry.opens(0), 12);
    ferry.setGround(1, 13, 7);
    Check.due("one way round it", ferry.opens(0), 8);
  }

  /** The same: low water opens one way and high water another one; between them there is none. */
  private static void opensOnBothSidesOfAGap() {
    FloodFerry ferry = new FloodFerry();
    ferry.addLanding(0, 0);
    ferry.addLanding(2, 0);
    ferry.launch(0, 1, 1, 4, 1, 0);
    for (int y = 0; y < 14; y++) {
      ferry.setGround(1, y, 20);
    }
    ferry.setGround(1, 2, 2);
    ferry.setGround(1, 1, 7);
    int[] crossings = {-1, 6, -1, 4, 4, -1};
    for (int level = 5; level <= 10; level++) {
      Check.due("at the level " + level, ferry.crossing(0, level), crossings[level - 5]);
    }
    Check.due("the lower way", ferry.opens(0), 6);
    ferry.setGround(1, 2, 1);
    Check.due("the upper way, as the lower one is too deep", ferry.opens(0), 8);
  }

  /** "Throws IndexOutOfBoundsException if there is no such landing, or what is not 0 to 2". */
  private static void chainRefused() {
    FloodFerry empty = new FloodFerry();
    Check.index("no landings", empty, () -> empty.chain(0, 0, 0));
    FloodFerry ferry = withEightLandings();
    ferry.launch(0, 7, 1, 2, 1, 9);
    Check.index("from -1", ferry, () -> ferry.chain(-1, 0, 0));
    Check.index("from 8 of 8", ferry, () -> ferry.chain(8, 0, 0));
    Check.index("to -1", ferry, () -> ferry.chain(0, -1, 0));
    Check.index("to 8 of 8", ferry, () -> ferry.chain(0, 8, 0));
    Check.index("the same one that is not there", ferry, () -> ferry.chain(8, 8, 0));
    Check.index("what -1", ferry, () -> ferry.chain(0, 7, -1));
    Check.index("what 3", ferry, () -> ferry.chain(0, 7, 3));
    Check.index("what -1 for the same one", ferry, () -> ferry.chain(7, 7, -1));
    Check.index("what 3 for the same one", ferry, () -> ferry.chain(7, 7, 3));
    Check.index("what 3 with no chain", ferry, () -> ferry.chain(1, 2, 3));
    expectChain(ferry, 0, 7, 1, 0, 9);
    expectChain(ferry, 7, 0, 1, 0, 9);
  }

  /** "-1 if there is none": with no punts, and with one that goes elsewhere. */
  private static void chainOfNoPunts() {
    FloodFerry ferry = withEightLandings();
    expectChain(ferry, 0, 7, -1, -1, -1);
    ferry.launch(1, 2, 1, 2, 1, 0);
    expectChain(ferry, 0, 7, -1, -1, -1);
    expectChain(ferry, 1, 7, -1, -1, -1);
    expectChain(ferry, 0, 2, -1, -1, -1);
  }

  /** "for the same landing 0, -1 and 0": whether a punt goes from it or not. */
  private static void chainToTheSameLanding() {
    FloodFerry ferry = withEightLandings();
    expectChain(ferry, 0, 0, 0, -1, 0);
    expectChain(ferry, 7, 7, 0, -1, 0);
    ferry.launch(0, 7, 1, 2, 1, 50);
    ferry.launch(7, 0, 1, 2, 1, 50);
    expectChain(ferry, 0, 0, 0, -1, 0);
    expectChain(ferry, 7, 7, 0, -1, 0);
  }

  /** "by punts, each of which goes between two landings (to and fro)". */
  private static void chainOfOnePunt() {
    FloodFerry ferry = withEightLandings();
    ferry.launch(7, 0, 1, 2, 1, 50);
    expectChain(ferry, 7, 0, 1, 0, 50);
    expectChain(ferry, 0, 7, 1, 0, 50);
    ferry.setToll(0, 0);
    expectChain(ferry, 0, 7, 1, 0, 0);
  }

  /** "0 the punts of the chain": as many as can be, with the most that they can ask. */
  private static void chainOfSixPunts() {
    FloodFerry ferry = withEightLandings();
    for (int punt = 0; punt < 6; punt++) {
      ferry.launch(punt + 1, punt + 2, 1, 2, 1, 50);
    }
    for (int landing = 1; landing <= 7; landing++) {
      int there = landing - 1;
      int left = 7 - landing;
      expectChain(ferry, 1, landing, there, there == 0 ? -1 : 0, 50 * there);
      expectChain(ferry, landing, 7, left, left == 0 ? -1 : landing - 1, 50 * left);
      expectChain(ferry, 7, landing, left, left == 0 ? -1 : 5, 50 * left);
    }
    expectChain(ferry, 1, 0, -1, -1, -1);
    expectChain(ferry, 0, 7, -1, -1, -1);
  }

  /** "with the fewest punts": in a ring the shorter side, and of equal ones the smaller number. */
  private static void chainInARing() {
    FloodFerry ferry = withEightLandings();
    for (int punt = 0; punt < 6; punt++) {
      ferry.launch(punt, (punt + 1) % 6, 1, 2, 1, punt < 3 ? 50 : 10);
    }
    expectChain(ferry, 0, 1, 1, 0, 50);
    expectChain(ferry, 0, 2, 2, 0, 100);
    expectChain(ferry, 0, 3, 3, 0, 30);
    expectChain(ferry, 0, 4, 2, 5, 20);
    expectChain(ferry, 0, 5, 1, 5, 10);
    expectChain(ferry, 3, 0, 3, 2, 30);
    expectChain(ferry, 4, 1, 3, 3, 70);
  }

  /** "of all punts with which such a chain begins, the one with the smallest number". */
  private static void chainWithTheSmallestNumber() {
    FloodFerry ferry = withEightLandings();
    ferry.launch(4, 5, 1, 2, 1, 1);
    ferry.launch(0, 1, 1, 2, 1, 50);
    ferry.launch(1, 0, 1, 2, 1, 10);
    ferry.launch(1, 2, 1, 2, 1, 20);
    ferry.launch(0, 3, 1, 2, 1, 1);
    expectChain(ferry, 0, 1, 1, 1, 10);
    expectChain(ferry, 1, 0, 1, 1, 10);
    expectChain(ferry, 0, 2, 2, 1, 30);
    expectChain(ferry, 2, 0, 2, 3, 30);
    ferry.launch(3, 2, 1, 2, 1, 2);
    expectChain(ferry, 0, 2, 2, 1, 3);
    expectChain(ferry, 2, 0, 2, 3, 3);
  }

  /** "2 the least sum of tolls of all chains with so few punts": a longer chain may cost less. */
  private static void chainWithTheLeastTolls() {
    FloodFerry ferry = withEightLandings();
    ferry.launch(0, 1, 1, 2, 1, 0);
    ferry.launch(1, 2, 1, 2, 1, 0);
    ferry.launch(2, 0, 1, 2, 1, 50);
    expectChain(ferry, 0, 2, 1, 2, 50);
    ferry.launch(0, 2, 1, 2, 1, 50);
    expectChain(ferry, 0, 2, 1, 2, 50);
    ferry.setToll(3, 49);
    expectChain(ferry, 0, 2, 1, 2, 49);
    ferry.setToll(2, 48);
    expectChain(ferry, 0, 2, 1, 2, 48);
  }

  /** "(Chains are there whatever the water is.)" */
  private static void chainWhateverTheWaterIs() {
    FloodFerry ferry = withEightLandings();
    ferry.launch(0, 1, 4, 2, 1, 3);
    ferry.launch(1, 2, 1, 12, 1, 4);
    for (int level = 0; level <= 24; level += 8) {
      ferry.setWater(0, level);
      expectChain(ferry, 0, 2, 2, 0, 7);
    }
  }

  /** "aground ... if there is no such punt", then "if hours is not 1 to 100". */
  private static void agroundRefused() {
    FloodFerry ferry = ferryBetween(0, 0, 2, 0);
    Check.index("punt -1", ferry, () -> ferry.aground(-1, 1));
    Check.index("punt 1 of 1", ferry, () -> ferry.aground(1, 1));
    Check.argument("hours 0", ferry, () -> ferry.aground(0, 0));
    Check.argument("hours 101", ferry, () -> ferry.aground(0, 101));
    Check.index("no punt, and hours 0", ferry, () -> ferry.aground(1, 0));
    Check.index("no punt, and hours 101", ferry, () -> ferry.aground(-1, 101));
    ferry.setWater(0, 0);
    Check.argument("hours 0, aground now", ferry, () -> ferry.aground(0, 0));
    FloodFerry empty = new FloodFerry();
    Check.index("no punts", empty, () -> empty.aground(0, 1));
  }

  /** "(0 if it is now)": however many hours are asked for. */
  private static void agroundNow() {
    FloodFerry ferry = ferryBetween(0, 0, 2, 0);
    ferry.setGround(0, 0, 8);
    Check.due("at most 1 hour", ferry.aground(0, 1), 0);
    Check.due("at most 100 hours", ferry.aground(0, 100), 0);
    ferry.setGround(0, 0, 7);
    Check.due("not now", ferry.aground(0, 1), -1);
  }

  /** "behind how many hours from now on, at most so many": with the first hour. */
  private static void agroundBehindAnHour() {
    FloodFerry ferry = ferryBetween(0, 0, 5, 0);
    ferry.setGround(1, 0, 7);
    ferry.setWater(1, 7);
    Check.due("it steps to where it will be aground", ferry.aground(0, 1), 1);
    ferry.setWater(1, 8);
    ferry.setWater(2, 5);
    Check.due("behind 2 hours, at most 1", ferry.aground(0, 1), -1);
    Check.due("behind 2 hours, at most 2", ferry.aground(0, 2), 2);
    Check.due("behind 2 hours, at most 3", ferry.aground(0, 3), 2);
    ferry.pass(1);
    Check.due("behind 1 hour", ferry.aground(0, 1), 1);
    ferry.pass(1);
    Check.due("now", ferry.aground(0, 1), 0);
    ferry.pass(1);
    Check.due("next behind 11 hours", ferry.aground(0, 100), 11);
  }

  /**
   * The same with the last hour. The goal can be reached in the hours 3, 15, .. 99 alone, so that
   * the punt comes to the cell 9 in the hour 99; and there it is aground in the hours 4, 16, .. 100.
   */
  private static void agroundBehindAHundredHours() {
    FloodFerry ferry = ferryBetween(0, 0, 13, 0);
    ferry.setGround(13, 0, 8);
    ferry.setGround(9, 0, 7);
    ferry.setWater(3, 9);
    ferry.setWater(4, 7);
    Check.due("at most 100", ferry.aground(0, 100), 100);
    Check.due("at most 99", ferry.aground(0, 99), -1);
    ferry.setWater(4, 8);
    ferry.setWater(5, 7);
    Check.due("behind 101 hours, at most 100", ferry.aground(0, 100), -1);
    ferry.pass(1);
    Check.due("behind 100 hours, at most 100", ferry.aground(0, 100), 100);
    Check.due("behind 100 hours, at most 99", ferry.aground(0, 99), -1);
  }

  /** The same behind the last hour of the table. */
  private static void agroundRoundTheTable() {
    FloodFerry ferry = ferryBetween(0, 0, 2, 0);
    ferry.pass(11);
    ferry.setWater(0, 5);
    Check.due("from the hour 11 to 12", ferry.aground(0, 1), 1);
    ferry.setWater(0, 8);
    ferry.setWater(10, 5);
    Check.due("from the hour 11 to 21", ferry.aground(0, 10), -1);
    Check.due("from the hour 11 to 22", ferry.aground(0, 11), 11);
  }

  /** "-1 if it is not". */
  private static void neverAground() {
    FloodFerry ferry = ferryBetween(0, 0, 13, 13);
    Check.due("always afloat", ferry.aground(0, 100), -1);
    ferry.setWater(5, 6);
    ferry.setWater(6, 17);
    Check.due("just deep enough, and just not too deep", ferry.aground(0, 100), -1);
    ferry.setWater(6, 18);
    Check.due("too deep", ferry.aground(0, 100), 6);
    ferry.setWater(5, 5);
    Check.due("not deep enough", ferry.aground(0, 100), 5);
  }

  /** "Throws IndexOutOfBoundsException if there is no such traveller". */
  private static void arrivesRefused() {
    FloodFerry ferry = ferryBetween(0, 0, 1, 0);
    Check.index("no travellers", ferry, () -> ferry.arrives(0));
    ferry.addTraveller(1, 0, 0);
    Check.index("traveller -1", ferry, () -> ferry.arrives(-1));
    Check.index("traveller 1 of 1", ferry, () -> ferry.arrives(1));
    for (int traveller = 1; traveller < 30; traveller++) {
      ferry.addTraveller(1, 0, 0);
    }
    Check.due("the first of 30", ferry.arrives(0), 2);
    Check.due("the last of 30, with one place an each second hour", ferry.arrives(29), 60);
    Check.index("traveller 30 of 30", ferry, () -> ferry.arrives(30));
  }

  /**
   * The goal, 17 steps away, can be reached in one hour of 12 alone, and so can the home. If that
   * is the hour 2, the punt goes in the hours 2, 14, .. 194, lands in 195, goes back in the hours
   * 206, 218, .. 398, and lands in 399.
   */
  private static FloodFerry slowFerry(int open) {
    FloodFerry ferry = ferryBetween(0, 0, 13, 4);
    ferry.setGround(0, 0, 8);
    ferry.setGround(13, 4, 8);
    ferry.setWater(open, 9);
    ferry.addTraveller(1, 0, 0);
    return ferry;
  }

  /** "in at most 400 hours from now on": the hours 0 to 399. */
  private static void arrivesInTheLastOf400Hours() {
    FloodFerry ferry = slowFerry(2);
    Check.due("from the hour 0 on", ferry.arrives(0), 399);
    Check.due("nobody comes before", passMany(ferry, 399), 0);
    Check.due("from the hour 399 on", ferry.arrives(0), 399);
    Check.due("and one comes then", ferry.pass(1), 1);
    Check.due("in this hour", ferry.traveller(0, 6), 399);
  }

  /** The same: the hour 400 is not one of them, but it is one of those from 1 on. */
  private static void arrivesInTheHourBehindThem() {
    FloodFerry ferry = slowFerry(3);
    Check.due("from the hour 0 on", ferry.arrives(0), -1);
    ferry.pass(1);
    Check.due("from the hour 1 on", ferry.arrives(0), 400);
    Check.due("nobody comes before", passMany(ferry, 399), 0);
    Check.due("and one comes then", ferry.pass(1), 1);
    Check.due("in this hour", ferry.traveller(0, 6), 400);
  }

  private static int passMany(FloodFerry ferry, int hours) {
    int came = 0;
    for (int left = hours; left > 0; left -= 100) {
      came += ferry.pass(Math.min(left, 100));
    }
    return came;
  }

  /** "the hour (its number) in which this one will come": it can be the one that is now. */
  private static void arrivesInThisHour() {
    FloodFerry ferry = ferryBetween(1, 0, 0, 0);
    ferry.addTraveller(1, 0, 0);
    for (int hour = 0; hour <= 2; hour++) {
      Check.due("from the hour " + hour + " on", ferry.arrives(0), 2);
      Check.due("not yet", ferry.traveller(0, 4), 0);
      Check.due("who comes in the hour " + hour, ferry.pass(1), hour == 2 ? 1 : 0);
    }
  }

  /** "that in which this one came": also more than 400 hours later. */
  private static void arrivesAsOneCame() {
    FloodFerry ferry = ferryBetween(1, 0, 0, 0);
    ferry.addTraveller(1, 0, 0);
    ferry.pass(3);
    Check.due("just come", ferry.arrives(0), 2);
    Check.due("nobody else comes", passMany(ferry, 1000), 0);
    Check.due("long ago", ferry.arrives(0), 2);
  }

  /** "-1 if not": with no chain, with too little in the purse, and with no way. */
  private static void arrivesNever() {
    FloodFerry ferry = ferryBetween(1, 0, 0, 0);
    ferry.addLanding(5, 5);
    ferry.addTraveller(1, 2, 1000);
    ferry.addTraveller(1, 0, 4);
    ferry.addTraveller(1, 0, 5);
    ferry.setToll(0, 5);
    Check.due("no chain", ferry.arrives(0), -1);
    Check.due("too little in the purse", ferry.arrives(1), -1);
    Check.due("just enough", ferry.arrives(2), 2);
    ferry.setGround(0, 0, 20);
    Check.due("no way", ferry.arrives(2), -1);
    ferry.setGround(0, 0, 5);
    ferry.setToll(0, 4);
    Check.due("enough for both, but room for one", ferry.arrives(2), 4);
    Check.due("enough for both", ferry.arrives(1), 2);
  }

  /** "if nothing else is done": by the water of each hour, behind the last of the table too. */
  private static void arrivesRoundTheTable() {
    FloodFerry ferry = ferryBetween(1, 0, 0, 0);
    ferry.pass(10);
    ferry.addTraveller(1, 0, 0);
    Check.due("loads in the hour 11", ferry.arrives(0), 12);
    ferry.setWater(11, 0);
    Check.due("aground in the hour 11", ferry.arrives(0), 13);
    ferry.setWater(0, 0);
    Check.due("and in the hour 12", ferry.arrives(0), 14);
    Check.due("nobody comes before", ferry.pass(4), 0);
    Check.due("and one comes then", ferry.pass(1), 1);
  }

  /** "Returns ...": what only tells changes nothing, however far it looks ahead. */
  private static void askingChangesNothing() {
    for (Scene scene : Scene.ALL) {
      FloodFerry ferry = scene.build();
      long before = ferry.digest();
      for (int punt = 0; punt < scene.punts; punt++) {
        ferry.aground(punt, 100);
        ferry.opens(punt);
        ferry.crossing(punt, 24);
      }
      for (int traveller = 0; traveller < scene.travellers; traveller++) {
        ferry.arrives(traveller);
      }
      Check.due(scene.name + ": digest()", ferry.digest(), before);
      FloodFerry unasked = scene.build();
      Check.due(scene.name + ": pass(100)", ferry.pass(100), unasked.pass(100));
      Check.due(scene.name + ": digest() later", ferry.digest(), unasked.digest());
    }
  }

  /** "Returns the mean depth of all cells now": the least that can be, and the most. */
  private static void meanOfNothingAndOfTheMost() {
    FloodFerry ferry = new FloodFerry();
    ferry.setWater(1, 0);
    ferry.setWater(2, 5);
    ferry.setWater(3, 24);
    Check.due("at first", ferry.mean(), 3.0);
    ferry.pass(1);
    Check.due("at the level 0", ferry.mean(), 0.0);
    ferry.pass(1);
    Check.due("at the level of the ground", ferry.mean(), 0.0);
    ferry.pass(1);
    Check.due("at the level 24", ferry.mean(), 19.0);
    for (int cell = 0; cell < 196; cell++) {
      ferry.setGround(cell % 14, cell / 14, 0);
    }
    Check.due("over the lowest ground", ferry.mean(), 24.0);
    for (int cell = 0; cell < 196; cell++) {
      ferry.setGround(cell % 14, cell / 14, 20);
    }
    Check.due("over the highest ground", ferry.mean(), 4.0);
    ferry.pass(9);
    Check.due("under the highest ground", ferry.mean(), 0.0);
  }

  /** The same: it is no whole number, with one cell less deep, dry, or the only deep one. */
  private static void meanIsNotCut() {
    FloodFerry ferry = new FloodFerry();
    ferry.setGround(13, 13, 6);
    Check.due("one less deep", ferry.mean(), 587 / 196.0);
    ferry.setGround(13, 13, 8);
    Check.due("one dry", ferry.mean(), 585 / 196.0);
    ferry.setGround(13, 13, 20);
    Check.due("one high above the water", ferry.mean(), 585 / 196.0);
    ferry.setGround(13, 13, 4);
    ferry.setWater(0, 5);
    Check.due("one deep", ferry.mean(), 1 / 196.0);
  }

  /** "A number d starts with 557": with no landing, no punt and no traveller. */
  private static void digestOfNothing() {
    Check.due("digest()", new FloodFerry().digest(), digestOf(Scene.NOTHING, eights()));
  }

  private static int[] eights() {
    return new int[] {8, 8, 8, 8, 8, 8, 8, 8, 8, 8, 8, 8};
  }

  /** "d becomes d * 31 + x, which wraps around as a 64-bit integer": with as many as can be. */
  private static void digestOfTheMost() {
    int[] levels = eights();
    levels[3] = 9;
    levels[4] = 7;
    levels[11] = 10;
    Check.due("with some", Scene.SOME.build().digest(), digestOf(Scene.SOME, levels));
    Check.due("with all", Scene.MOST.build().digest(), digestOf(Scene.MOST, levels));
  }

  /** By what another object like this one tells; as it takes so many calls, by two of them. */
  private static long digestOf(Scene scene, int[] levels) {
    FloodFerry ferry = scene.build();
    long sum = 557;
    for (int what = 0; what <= 10; what++) {
      sum = sum * 31 + ferry.count(what);
    }
    for (int level : levels) {
      sum = sum * 31 + level;
    }
    for (int cell = 0; cell < 196; cell++) {
      sum = sum * 31 + ferry.cell(cell % 14, cell / 14, 0);
      sum = sum * 31 + ferry.cell(cell % 14, cell / 14, 2);
    }
    return digestOfTheRest(scene.build(), scene, sum);
  }

  private static long digestOfTheRest(FloodFerry ferry, Scene scene, long start) {
    long sum = start;
    for (int landing = 0; landing < scene.landings; landing++) {
      for (int what = 0; what <= 4; what++) {
        sum = sum * 31 + ferry.landing(landing, what);
      }
    }
    for (int punt = 0; punt < scene.punts; punt++) {
      for (int what = 0; what <= 8; what++) {
        sum = sum * 31 + ferry.punt(punt, what);
      }
    }
    for (int traveller = 0; traveller < scene.travellers; traveller++) {
      for (int what = 0; what <= 6; what++) {
        sum = sum * 31 + ferry.traveller(traveller, what);
      }
    }
    return sum;
  }

  /** The same: each thing that it is made of shows in it, from the first of its kind to the last. */
  private static void digestShowsEachCall() {
    FloodFerry ferry = Scene.SOME.build();
    long before = ferry.digest();
    for (int call = 0; call < 10; call++) {
      change(ferry, call);
      long after = ferry.digest();
      Check.due("the change " + call + " shows", after != before ? 1 : 0, 1);
      before = after;
    }
  }

  private static void change(FloodFerry ferry, int call) {
    switch (call) {
      case 0:
        ferry.setGround(0, 0, 6);
        break;
      case 1:
        ferry.setGround(13, 13, 6);
        break;
      case 2:
        ferry.setStake(0, 0, 1);
        break;
      case 3:
        ferry.setStake(13, 13, 1);
        break;
      case 4:
        ferry.setWater(0, 9);
        break;
      case 5:
        ferry.setWater(11, 9);
        break;
      case 6:
        ferry.addLanding(9, 9);
        break;
      case 7:
        ferry.launch(3, 0, 1, 12, 1, 0);
        break;
      case 8:
        ferry.addTraveller(3, 0, 0);
        break;
      default:
        ferry.pass(1);
    }
  }
}
