/**
 * The boundary cases of landings, punts and their ways: "Terms" and the promises 6 to 9. Each test
 * bears the sentence of the document that it holds to.
 */
final class PuntEdgesTest {
  public static void main(String[] args) {
    landingsFromZeroToSeven();
    aNinthLanding();
    aCellOfItsOwn();
    landingsInTheCorners();
    noSuchLanding();
    oneLandingAlone();
    theLastLandingAsHomeAndGoal();
    draughtFromOneToFour();
    poleFromTwoToTwelve();
    roomFromOneToSix();
    tollFromZeroToFifty();
    puntsFromZeroToFive();
    aSeventhPunt();
    launchNamesTheFirst();
    refusedLaunches();
    newTolls();
    refusedTolls();
    floats();
    aNewPunt();
    aNewPuntAground();
    aNewPuntInALaterHour();
    puntRefused();
    wayOfNoStep();
    wayOfOneStep();
    wayFromCornerToCorner();
    theLongestWay();
    noWayIfTheEndIsDry();
    noWayIfItIsAground();
    theFirstCellIsNotCounted();
    equalWays();
    equalWaysRoundACell();
    oneWayLeft();
    equalWaysFromCorners();
    stepByStep();
    Check.end();
  }

  private static FloodFerry ferryBetween(int x, int y, int toX, int toY) {
    FloodFerry ferry = new FloodFerry();
    ferry.addLanding(x, y);
    ferry.addLanding(toX, toY);
    ferry.launch(0, 1, 1, 12, 1, 0);
    return ferry;
  }

  private static FloodFerry withTwoLandings() {
    FloodFerry ferry = new FloodFerry();
    ferry.addLanding(2, 2);
    ferry.addLanding(6, 2);
    return ferry;
  }

  private static FloodFerry withEightLandings() {
    FloodFerry ferry = new FloodFerry();
    for (int landing = 0; landing < 8; landing++) {
      ferry.addLanding(landing, 13);
    }
    return ferry;
  }

  private static void expectPlace(String what, FloodFerry ferry, int x, int y) {
    Check.due(what + ", x", ferry.punt(0, 0), x);
    Check.due(what + ", y", ferry.punt(0, 1), y);
  }

  /** "Landings. There are at most 8, numbered from 0 in the order of their building". */
  private static void landingsFromZeroToSeven() {
    FloodFerry ferry = new FloodFerry();
    Check.due("no landings", ferry.count(2), 0);
    for (int landing = 0; landing < 8; landing++) {
      Check.due("its number", ferry.addLanding(13 - landing, landing), landing);
      Check.due("landings", ferry.count(2), landing + 1);
      Check.due("its x", ferry.landing(landing, 0), 13 - landing);
      Check.due("its y", ferry.landing(landing, 1), landing);
    }
  }

  /** "Throws IllegalStateException if ... there are 8". */
  private static void aNinthLanding() {
    FloodFerry ferry = withEightLandings();
    Check.state("a ninth one", ferry, () -> ferry.addLanding(8, 13));
    Check.state("a ninth one where one is", ferry, () -> ferry.addLanding(7, 13));
    Check.index("a ninth one where no cell is", ferry, () -> ferry.addLanding(14, 13));
    Check.due("landings", ferry.count(2), 8);
    Check.due("none was built", ferry.cell(8, 13, 4), -1);
    Check.index("it has no number", ferry, () -> ferry.landing(8, 0));
    Check.due("the last one is as it was", ferry.landing(7, 0), 7);
  }

  /** "each on a cell of its own"; "if there is one on this cell". */
  private static void aCellOfItsOwn() {
    FloodFerry ferry = new FloodFerry();
    ferry.addLanding(4, 9);
    Check.state("the only one is on this cell", ferry, () -> ferry.addLanding(4, 9));
    Check.due("landings", ferry.count(2), 1);
    Check.due("with x and y changed", ferry.addLanding(9, 4), 1);
    Check.state("the first one is on this cell", ferry, () -> ferry.addLanding(4, 9));
    Check.state("the last one is on this cell", ferry, () -> ferry.addLanding(9, 4));
    Check.due("the next number", ferry.addLanding(4, 10), 2);
  }

  /** "Throws IndexOutOfBoundsException if there is no such cell". */
  private static void landingsInTheCorners() {
    FloodFerry ferry = new FloodFerry();
    Check.index("x -1", ferry, () -> ferry.addLanding(-1, 0));
    Check.index("x 14", ferry, () -> ferry.addLanding(14, 13));
    Check.index("y -1", ferry, () -> ferry.addLanding(0, -1));
    Check.index("y 14", ferry, () -> ferry.addLanding(13, 14));
    Check.due("upper left", ferry.addLanding(0, 0), 0);
    Check.due("upper right", ferry.addLanding(13, 0), 1);
    Check.due("lower left", ferry.addLanding(0, 13), 2);
    Check.due("lower right", ferry.addLanding(13, 13), 3);
  }

  /** "launch ... Throws IndexOutOfBoundsException if there is no such landing". */
  private static void noSuchLanding() {
    FloodFerry empty = new FloodFerry();
    Check.index("no landings", empty, () -> empty.launch(0, 0, 1, 2, 1, 0));
    FloodFerry ferry = withTwoLandings();
    Check.index("home -1", ferry, () -> ferry.launch(-1, 1, 1, 2, 1, 0));
    Check.index("home 2 of 2", ferry, () -> ferry.launch(2, 1, 1, 2, 1, 0));
    Check.index("goal -1", ferry, () -> ferry.launch(1, -1, 1, 2, 1, 0));
    Check.index("goal 2 of 2", ferry, () -> ferry.launch(1, 2, 1, 2, 1, 0));
    FloodFerry full = withEightLandings();
    Check.index("home 8 of 8", full, () -> full.launch(8, 1, 1, 2, 1, 0));
    Check.index("goal 8 of 8", full, () -> full.launch(1, 8, 1, 2, 1, 0));
  }

  /** The same, and "if both are the same", with no other landing there. */
  private static void oneLandingAlone() {
    FloodFerry ferry = new FloodFerry();
    ferry.addLanding(0, 0);
    Check.index("no goal", ferry, () -> ferry.launch(0, 1, 1, 2, 1, 0));
    Check.index("no home", ferry, () -> ferry.launch(1, 0, 1, 2, 1, 0));
    Check.argument("both the same", ferry, () -> ferry.launch(0, 0, 1, 2, 1, 0));
    ferry.addLanding(0, 1);
    Check.due("with a second one", ferry.launch(0, 1, 1, 2, 1, 0), 0);
  }

  /** "home: its home; goal: its goal": the first landing and the last. */
  private static void theLastLandingAsHomeAndGoal() {
    FloodFerry ferry = withEightLandings();
    Check.due("from the last to the first", ferry.launch(7, 0, 1, 2, 1, 0), 0);
    Check.due("from the first to the last", ferry.launch(0, 7, 1, 2, 1, 0), 1);
    Check.due("at the last", ferry.punt(0, 0), 7);
    Check.due("bound for the first", ferry.punt(0, 2), 0);
    Check.due("at the first", ferry.punt(1, 0), 0);
    Check.due("bound for the last", ferry.punt(1, 2), 7);
    Check.argument("both the last", ferry, () -> ferry.launch(7, 7, 1, 2, 1, 0));
  }

  /** "A punt has a draught, 1 to 4". */
  private static void draughtFromOneToFour() {
    FloodFerry ferry = withTwoLandings();
    Check.argument("draught 0", ferry, () -> ferry.launch(0, 1, 0, 12, 1, 0));
    Check.argument("draught 5", ferry, () -> ferry.launch(0, 1, 5, 12, 1, 0));
    Check.due("draught 1", ferry.launch(0, 1, 1, 12, 1, 0), 0);
    Check.due("draught 4", ferry.launch(0, 1, 4, 12, 1, 0), 1);
    Check.due("opens with the draught 1", ferry.opens(0), 6);
    Check.due("opens with the draught 4", ferry.opens(1), 9);
  }

  /** "a pole, 2 to 12". */
  private static void poleFromTwoToTwelve() {
    FloodFerry ferry = withTwoLandings();
    Check.argument("pole 1", ferry, () -> ferry.launch(0, 1, 1, 1, 1, 0));
    Check.argument("pole 13", ferry, () -> ferry.launch(0, 1, 1, 13, 1, 0));
    Check.due("pole 2", ferry.launch(0, 1, 1, 2, 1, 0), 0);
    Check.due("pole 12", ferry.launch(0, 1, 1, 12, 1, 0), 1);
    Check.due("pole 2 at the depth 2", ferry.crossing(0, 7), 4);
    Check.due("pole 2 at the depth 3", ferry.crossing(0, 8), -1);
    Check.due("pole 12 at the depth 12", ferry.crossing(1, 17), 4);
    Check.due("pole 12 at the depth 13", ferry.crossing(1, 18), -1);
  }

  /** "room, 1 to 6". */
  private static void roomFromOneToSix() {
    FloodFerry ferry = withTwoLandings();
    Check.argument("room 0", ferry, () -> ferry.launch(0, 1, 1, 12, 0, 0));
    Check.argument("room 7", ferry, () -> ferry.launch(0, 1, 1, 12, 7, 0));
    Check.due("room 1", ferry.launch(0, 1, 1, 12, 1, 0), 0);
    Check.due("room 6", ferry.launch(0, 1, 1, 12, 6, 0), 1);
  }

  /** "and a toll, 0 to 50". */
  private static void tollFromZeroToFifty() {
    FloodFerry ferry = withTwoLandings();
    Check.argument("toll -1", ferry, () -> ferry.launch(0, 1, 1, 12, 1, -1));
    Check.argument("toll 51", ferry, () -> ferry.launch(0, 1, 1, 12, 1, 51));
    Check.due("toll 0", ferry.launch(0, 1, 1, 12, 1, 0), 0);
    Check.due("toll 50", ferry.launch(0, 1, 1, 12, 1, 50), 1);
    Check.due("toll 0", ferry.punt(0, 4), 0);
    Check.due("toll 50", ferry.punt(1, 4), 50);
  }

  /** "There are at most 6, numbered likewise." */
  private static void puntsFromZeroToFive() {
    FloodFerry ferry = withTwoLandings();
    Check.due("no punts", ferry.count(3), 0);
    for (int punt = 0; punt < 6; punt++) {
      Check.due("its number", ferry.launch(punt % 2, 1 - punt % 2, 1, 12, 1, punt), punt);
      Check.due("punts", ferry.count(3), punt + 1);
      Check.due("its toll", ferry.punt(punt, 4), punt);
      Check.due("its goal", ferry.punt(punt, 2), 1 - punt % 2);
    }
  }

  /** "Throws IllegalStateException if there are 6". */
  private static void aSeventhPunt() {
    FloodFerry ferry = withTwoLandings();
    for (int punt = 0; punt < 6; punt++) {
      ferry.launch(0, 1, 1, 12, 1, punt);
    }
    ferry.addLanding(9, 9);
    Check.state("a seventh one", ferry, () -> ferry.launch(0, 2, 1, 12, 1, 0));
    Check.due("punts", ferry.count(3), 6);
    Check.due("it is not there", ferry.cell(2, 2, 5), 6);
    Check.due("no chain goes by it", ferry.chain(0, 2, 0), -1);
    Check.due("it is not one of the landing's", ferry.landing(2, 4), 0);
    Check.index("it has no number", ferry, () -> ferry.punt(6, 0));
    Check.due("the last one is as it was", ferry.punt(5, 4), 5);
  }

  /** "If several exceptions apply, the one that is named first is thrown." */
  private static void launchNamesTheFirst() {
    FloodFerry ferry = withTwoLandings();
    Check.index("no home, and all else wrong", ferry, () -> ferry.launch(2, 2, 0, 1, 0, -1));
    Check.index("no goal, and all else wrong", ferry, () -> ferry.launch(0, -1, 5, 13, 7, 51));
    for (int punt = 0; punt < 6; punt++) {
      ferry.launch(0, 1, 1, 12, 1, 0);
    }
    Check.index("no home, and there are 6", ferry, () -> ferry.launch(2, 1, 1, 12, 1, 0));
    Check.index("no goal, and there are 6", ferry, () -> ferry.launch(0, -1, 1, 12, 1, 0));
    Check.argument("both the same, and there are 6", ferry, () -> ferry.launch(1, 1, 1, 12, 1, 0));
    Check.argument("draught 0, and there are 6", ferry, () -> ferry.launch(0, 1, 0, 12, 1, 0));
    Check.argument("draught 5, and there are 6", ferry, () -> ferry.launch(0, 1, 5, 12, 1, 0));
    Check.argument("pole 1, and there are 6", ferry, () -> ferry.launch(0, 1, 1, 1, 1, 0));
    Check.argument("pole 13, and there are 6", ferry, () -> ferry.launch(0, 1, 1, 13, 1, 0));
    Check.argument("room 0, and there are 6", ferry, () -> ferry.launch(0, 1, 1, 12, 0, 0));
    Check.argument("room 7, and there are 6", ferry, () -> ferry.launch(0, 1, 1, 12, 7, 0));
    Check.argument("toll -1, and there are 6", ferry, () -> ferry.launch(0, 1, 1, 12, 1, -1));
    Check.argument("toll 51, and there are 6", ferry, () -> ferry.launch(0, 1, 1, 12, 1, 51));
  }

  /** "A method that throws an exception changes nothing": the next punt is as if it were the first. */
  private static void refusedLaunches() {
    FloodFerry ferry = withTwoLandings();
    Check.argument("room 7", ferry, () -> ferry.launch(1, 0, 4, 12, 7, 50));
    Check.argument("toll 51", ferry, () -> ferry.launch(1, 0, 4, 12, 6, 51));
    Check.due("no punt at the home", ferry.cell(6, 2, 5), 0);
    Check.due("no chain", ferry.chain(0, 1, 0), -1);
    Check.due("no punt of the landing", ferry.landing(0, 4), 0);
    Check.due("the number of the next one", ferry.launch(0, 1, 1, 2, 1, 7), 0);
    expectPlace("its own home", ferry, 2, 2);
    Check.due("its own draught", ferry.opens(0), 6);
    Check.due("its own pole", ferry.crossing(0, 8), -1);
  }

  /** "setToll ... toll is not 0 to 50": the first and the last, of the first punt and the last. */
  private static void newTolls() {
    FloodFerry ferry = withTwoLandings();
    for (int punt = 0; punt < 6; punt++) {
      ferry.launch(0, 1, 1, 12, 1, 10 + punt);
    }
    Check.due("toll before", ferry.setToll(0, 0), 10);
    Check.due("toll before", ferry.setToll(0, 50), 0);
    Check.due("toll before", ferry.setToll(5, 50), 15);
    Check.due("toll before", ferry.setToll(5, 0), 50);
    Check.due("the toll of the first", ferry.punt(0, 4), 50);
    Check.due("the toll of the last", ferry.punt(5, 4), 0);
    Check.due("the toll of another one", ferry.punt(1, 4), 11);
    Check.index("punt 6 of 6", ferry, () -> ferry.setToll(6, 0));
  }

  /** "Throws IndexOutOfBoundsException if there is no such punt", then "if toll is not 0 to 50". */
  private static void refusedTolls() {
    FloodFerry ferry = withTwoLandings();
    Check.index("no punts", ferry, () -> ferry.setToll(0, 0));
    ferry.launch(0, 1, 1, 12, 1, 9);
    Check.index("punt -1", ferry, () -> ferry.setToll(-1, 0));
    Check.index("punt 1 of 1", ferry, () -> ferry.setToll(1, 0));
    Check.argument("toll -1", ferry, () -> ferry.setToll(0, -1));
    Check.argument("toll 51", ferry, () -> ferry.setToll(0, 51));
    Check.index("no punt, and toll -1", ferry, () -> ferry.setToll(1, -1));
    Check.index("no punt, and toll 51", ferry, () -> ferry.setToll(-1, 51));
    Check.due("toll before is as it was", ferry.setToll(0, 9), 9);
  }

  /** "It floats on a cell, if the depth is at least its draught, and at most its pole." */
  private static void floats() {
    for (int draught = 1; draught <= 4; draught++) {
      for (int pole = 2; pole <= 12; pole++) {
        FloodFerry ferry = withTwoLandings();
        ferry.setGround(2, 2, 0);
        ferry.launch(0, 1, draught, pole, 1, 0);
        for (int depth = 0; depth <= 24; depth++) {
          ferry.setWater(0, depth);
          int due = depth < draught || depth > pole ? 1 : 0;
          String what = draught + ", " + pole + " at the depth " + depth;
          Check.due(what + " is aground", ferry.punt(0, 5), due);
          Check.due(what + " is counted", ferry.count(9), due);
        }
      }
    }
  }

  /** "It is on a cell (that of its home, at first), and bound for one of both (the goal, at first)." */
  private static void aNewPunt() {
    FloodFerry ferry = withTwoLandings();
    ferry.pass(12);
    ferry.launch(1, 0, 1, 12, 6, 50);
    int[] answers = {6, 2, 0, 0, 50, 0, 4, 0, 0};
    for (int what = 0; what < answers.length; what++) {
      Check.due("new: punt(0, " + what + ")", ferry.punt(0, what), answers[what]);
    }
  }

  /** The same where it does not float: it is launched all the same. */
  private static void aNewPuntAground() {
    FloodFerry ferry = withTwoLandings();
    ferry.setGround(2, 2, 20);
    Check.due("its number", ferry.launch(0, 1, 1, 12, 1, 3), 0);
    int[] answers = {2, 2, 1, 0, 3, 1, -1, 0, 0};
    for (int what = 0; what < answers.length; what++) {
      Check.due("aground: punt(0, " + what + ")", ferry.punt(0, what), answers[what]);
    }
    ferry.pass(1);
    expectPlace("it stays", ferry, 2, 2);
  }

  /** The same when hours have gone by, with no punt and with others: it goes there and back. */
  private static void aNewPuntInALaterHour() {
    FloodFerry ferry = withTwoLandings();
    for (int punt = 0; punt < 6; punt++) {
      ferry.pass(13);
      Check.due("its number", ferry.launch(1, 0, 1, 12, 1, 0), punt);
      Check.due("crossing", ferry.crossing(punt, 8), 4);
      int[] columns = {6, 5, 4, 3, 2, 3, 4, 5, 6, 5};
      for (int hour = 0; hour < columns.length; hour++) {
        Check.due("its x behind " + hour + " hours", ferry.punt(punt, 0), columns[hour]);
        Check.due("its steps behind " + hour + " hours", ferry.punt(punt, 8), hour);
        ferry.pass(1);
      }
    }
  }

  /** "Throws IndexOutOfBoundsException if there is no such punt, or what is not 0 to 8". */
  private static void puntRefused() {
    FloodFerry ferry = withTwoLandings();
    Check.index("no punts", ferry, () -> ferry.punt(0, 0));
    ferry.launch(0, 1, 1, 12, 1, 0);
    Check.index("punt -1", ferry, () -> ferry.punt(-1, 0));
    Check.index("punt 1 of 1", ferry, () -> ferry.punt(1, 0));
    Check.index("what -1", ferry, () -> ferry.punt(0, -1));
    Check.index("what 9", ferry, () -> ferry.punt(0, 9));
    Check.due("what 0", ferry.punt(0, 0), 2);
    Check.due("what 8", ferry.punt(0, 8), 0);
  }

  /** "6 how long its way to where it is bound for is now": nothing is left of it. */
  private static void wayOfNoStep() {
    FloodFerry ferry = ferryBetween(3, 3, 5, 3);
    ferry.pass(2);
    expectPlace("at its goal", ferry, 5, 3);
    Check.due("bound for it yet", ferry.punt(0, 2), 1);
    Check.due("its way", ferry.punt(0, 6), 0);
    ferry.setGround(5, 3, 20);
    Check.due("aground there it has none", ferry.punt(0, 6), -1);
  }

  /** The same with one cell, "the first one not counted". */
  private static void wayOfOneStep() {
    FloodFerry ferry = ferryBetween(3, 3, 3, 4);
    Check.due("its way", ferry.punt(0, 6), 1);
    ferry.pass(1);
    expectPlace("at its goal", ferry, 3, 4);
    Check.due("steps", ferry.punt(0, 8), 1);
    ferry.pass(1);
    expectPlace("and back", ferry, 3, 3);
    Check.due("steps", ferry.punt(0, 8), 2);
  }

  /** "it is as long as the fewest steps tell": over the whole plain. */
  private static void wayFromCornerToCorner() {
    FloodFerry ferry = ferryBetween(13, 13, 0, 0);
    Check.due("its way", ferry.punt(0, 6), 26);
    ferry.pass(25);
    Check.due("its way", ferry.punt(0, 6), 1);
    Check.due("steps", ferry.punt(0, 8), 25);
    ferry.pass(1);
    Check.due("its way", ferry.punt(0, 6), 0);
    expectPlace("at its goal", ferry, 0, 0);
  }

  /** The same along seven rows, from each into the next at one end alone. */
  private static void theLongestWay() {
    FloodFerry ferry = ferryBetween(0, 0, 13, 12);
    for (int y = 1; y < 12; y += 2) {
      int open = y % 4 == 1 ? 13 : 0;
      for (int x = 0; x < 14; x++) {
        if (x != open) {
          ferry.setGround(x, y, 8);
        }
      }
    }
    Check.due("7 rows of 13 steps, and 6 times 2", ferry.punt(0, 6), 103);
    Check.due("crossing", ferry.crossing(0, 8), 103);
    ferry.pass(100);
    Check.due("its way behind 100 hours", ferry.punt(0, 6), 3);
    ferry.pass(3);
    expectPlace("at its goal", ferry, 13, 12);
    Check.due("with water over all", ferry.crossing(0, 9), 25);
  }

  /** "-1 if there is none": the cell where it ends is one of those on which it has to float. */
  private static void noWayIfTheEndIsDry() {
    FloodFerry ferry = ferryBetween(3, 3, 5, 3);
    ferry.setGround(5, 3, 8);
    Check.due("the end is dry", ferry.punt(0, 6), -1);
    ferry.pass(3);
    expectPlace("it stays", ferry, 3, 3);
    Check.due("steps", ferry.punt(0, 8), 0);
    Check.due("it is not aground", ferry.punt(0, 5), 0);
    ferry.setGround(5, 3, 7);
    Check.due("the end is just deep enough", ferry.punt(0, 6), 2);
  }

  /** "or it is aground": though there is a way from there. */
  private static void noWayIfItIsAground() {
    FloodFerry ferry = ferryBetween(3, 3, 5, 3);
    ferry.pass(1);
    ferry.setGround(4, 3, 8);
    Check.due("it is aground", ferry.punt(0, 5), 1);
    Check.due("its way", ferry.punt(0, 6), -1);
    ferry.pass(5);
    expectPlace("it stays", ferry, 4, 3);
    ferry.setGround(4, 3, 7);
    Check.due("afloat again", ferry.punt(0, 6), 1);
    ferry.pass(1);
    expectPlace("it goes on", ferry, 5, 3);
  }

  /** "over cells on which it floats now": a way goes round the others, and never over them. */
  private static void theFirstCellIsNotCounted() {
    FloodFerry ferry = ferryBetween(3, 0, 5, 0);
    ferry.setGround(4, 0, 8);
    Check.due("round a dry cell", ferry.punt(0, 6), 4);
    ferry.pass(1);
    expectPlace("down, not over the dry cell", ferry, 3, 1);
    ferry.setGround(4, 1, 8);
    Check.due("round two of them", ferry.punt(0, 6), 5);
    ferry.setGround(4, 1, 7);
    Check.due("round one again", ferry.punt(0, 6), 3);
    ferry.setGround(4, 0, 7);
    Check.due("straight on", ferry.punt(0, 6), 3);
  }

  /** "of all cells side by side from which the way is shortest, the one with the smallest number". */
  private static void equalWays() {
    expectStep("up before left", ferryBetween(5, 5, 2, 2), 5, 4);
    expectStep("up before right", ferryBetween(5, 5, 8, 2), 5, 4);
    expectStep("left before down", ferryBetween(5, 5, 2, 8), 4, 5);
    expectStep("right before down", ferryBetween(5, 5, 8, 8), 6, 5);
    expectStep("up alone", ferryBetween(5, 5, 5, 2), 5, 4);
    expectStep("left alone", ferryBetween(5, 5, 2, 5), 4, 5);
    expectStep("right alone", ferryBetween(5, 5, 8, 5), 6, 5);
    expectStep("down alone", ferryBetween(5, 5, 5, 8), 5, 6);
  }

  private static void expectStep(String what, FloodFerry ferry, int x, int y) {
    ferry.pass(1);
    expectPlace(what, ferry, x, y);
  }

  /** The same with equal ways on both sides of a dry cell. */
  private static void equalWaysRoundACell() {
    FloodFerry down = ferryBetween(5, 5, 5, 8);
    down.setGround(5, 6, 8);
    expectStep("left before right, to go down", down, 4, 5);
    FloodFerry up = ferryBetween(5, 5, 5, 2);
    up.setGround(5, 4, 8);
    expectStep("left before right, to go up", up, 4, 5);
    FloodFerry right = ferryBetween(5, 5, 8, 5);
    right.setGround(6, 5, 8);
    expectStep("up before down, to go right", right, 5, 4);
    FloodFerry left = ferryBetween(5, 5, 2, 5);
    left.setGround(4, 5, 8);
    expectStep("up before down, to go left", left, 5, 4);
  }

  /** The same where the shorter ways are shut: away from the goal, if there is no other way. */
  private static void oneWayLeft() {
    FloodFerry ferry = ferryBetween(5, 5, 5, 2);
    ferry.setGround(5, 4, 8);
    ferry.setGround(4, 5, 8);
    expectStep("right, as up and left are shut", ferry, 6, 5);
    FloodFerry other = ferryBetween(5, 5, 5, 2);
    other.setGround(5, 4, 8);
    other.setGround(4, 5, 8);
    other.setGround(6, 5, 8);
    Check.due("all but down are shut", other.punt(0, 6), 9);
    expectStep("down, as all else is shut", other, 5, 6);
    FloodFerry shut = ferryBetween(5, 5, 5, 2);
    shut.setGround(5, 4, 8);
    shut.setGround(4, 5, 8);
    shut.setGround(6, 5, 8);
    shut.setGround(5, 6, 8);
    Check.due("all are shut", shut.punt(0, 6), -1);
    expectStep("no step", shut, 5, 5);
  }

  /** The same in the corners, where two of the cells are not there. */
  private static void equalWaysFromCorners() {
    expectStep("right before down", ferryBetween(0, 0, 13, 13), 1, 0);
    expectStep("left before down", ferryBetween(13, 0, 0, 13), 12, 0);
    expectStep("up before right", ferryBetween(0, 13, 13, 0), 0, 12);
    expectStep("up before left", ferryBetween(13, 13, 0, 0), 13, 12);
  }

  /** The same at every step, there and back. */
  private static void stepByStep() {
    FloodFerry ferry = ferryBetween(5, 5, 3, 3);
    int[][] places = {{5, 4}, {5, 3}, {4, 3}, {3, 3}, {4, 3}, {5, 3}, {5, 4}, {5, 5}, {5, 4}};
    for (int hour = 0; hour < places.length; hour++) {
      ferry.pass(1);
      expectPlace("behind " + (hour + 1) + " hours", ferry, places[hour][0], places[hour][1]);
      Check.due("steps", ferry.punt(0, 8), hour + 1);
    }
  }
}
