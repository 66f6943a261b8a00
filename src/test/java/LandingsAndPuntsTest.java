/** Promises 6 to 9: addLanding, launch, setToll and punt. */
final class LandingsAndPuntsTest {
  public static void main(String[] args) {
    landings();
    launches();
    wrongLaunches();
    tolls();
    punts();
    nextSteps();
    Check.end();
  }

  private static void landings() {
    FloodFerry ferry = new FloodFerry();
    for (int landing = 0; landing < 8; landing++) {
      Check.due("its number", ferry.addLanding(landing, 13 - landing), landing);
      if (landing == 3) {
        Check.state("one on this cell", ferry, () -> ferry.addLanding(0, 13));
      }
    }
    Check.due("landings", ferry.count(2), 8);
    Check.state("a ninth", ferry, () -> ferry.addLanding(0, 0));
    Check.index("x 14", ferry, () -> ferry.addLanding(14, 0));
    Check.index("x -1", ferry, () -> ferry.addLanding(-1, 0));
    Check.index("y 14", ferry, () -> ferry.addLanding(0, 14));
    Check.index("y -1", ferry, () -> ferry.addLanding(0, -1));
  }

  private static void launches() {
    FloodFerry ferry = withLandings();
    Check.due("the least", ferry.launch(0, 1, 1, 2, 1, 0), 0);
    Check.due("the most", ferry.launch(1, 0, 4, 12, 6, 50), 1);
    Check.due("a draught above its pole", ferry.launch(1, 2, 4, 2, 6, 50), 2);
    Check.due("is aground in any water", ferry.opens(2), -1);
    Check.due("on the cell of its home", ferry.punt(1, 0) * 100 + ferry.punt(1, 1), 602);
    Check.due("bound for its goal", ferry.punt(1, 2), 0);
    for (int punt = 3; punt < 6; punt++) {
      Check.due("its number", ferry.launch(0, 1, 1, 2, 1, 0), punt);
    }
    Check.due("punts", ferry.count(3), 6);
    Check.state("a seventh", ferry, () -> ferry.launch(0, 1, 1, 2, 1, 0));
    Check.argument("an argument comes before the state", ferry, () -> ferry.launch(0, 0, 1, 2, 1, 0));
    Check.argument("an argument comes before the state", ferry, () -> ferry.launch(0, 1, 1, 2, 1, 51));
    Check.index("an index comes before the state", ferry, () -> ferry.launch(0, 3, 1, 2, 1, 0));
  }

  private static void wrongLaunches() {
    FloodFerry ferry = withLandings();
    Check.index("home -1", ferry, () -> ferry.launch(-1, 1, 1, 2, 1, 0));
    Check.index("home 3", ferry, () -> ferry.launch(3, 1, 1, 2, 1, 0));
    Check.index("goal -1", ferry, () -> ferry.launch(0, -1, 1, 2, 1, 0));
    Check.index("goal 3", ferry, () -> ferry.launch(0, 3, 1, 2, 1, 0));
    Check.index("the index comes first", ferry, () -> ferry.launch(3, 3, 0, 1, 0, -1));
    Check.argument("both the same", ferry, () -> ferry.launch(1, 1, 1, 2, 1, 0));
    Check.argument("draught 0", ferry, () -> ferry.launch(0, 1, 0, 2, 1, 0));
    Check.argument("draught 5", ferry, () -> ferry.launch(0, 1, 5, 2, 1, 0));
    Check.argument("pole 1", ferry, () -> ferry.launch(0, 1, 1, 1, 1, 0));
    Check.argument("pole 13", ferry, () -> ferry.launch(0, 1, 1, 13, 1, 0));
    Check.argument("room 0", ferry, () -> ferry.launch(0, 1, 1, 2, 0, 0));
    Check.argument("room 7", ferry, () -> ferry.launch(0, 1, 1, 2, 7, 0));
    Check.argument("toll -1", ferry, () -> ferry.launch(0, 1, 1, 2, 1, -1));
    Check.argument("toll 51", ferry, () -> ferry.launch(0, 1, 1, 2, 1, 51));
  }

  private static void tolls() {
    FloodFerry ferry = withLandings();
    ferry.launch(0, 1, 1, 2, 1, 7);
    ferry.launch(0, 1, 1, 2, 1, 8);
    Check.due("toll before", ferry.setToll(0, 50), 7);
    Check.due("toll before", ferry.setToll(0, 0), 50);
    Check.due("toll", ferry.punt(0, 4), 0);
    Check.due("toll of the other", ferry.punt(1, 4), 8);
    Check.index("punt -1", ferry, () -> ferry.setToll(-1, 0));
    Check.index("punt 2", ferry, () -> ferry.setToll(2, 0));
    Check.argument("toll -1", ferry, () -> ferry.setToll(0, -1));
    Check.argument("toll 51", ferry, () -> ferry.setToll(0, 51));
    Check.index("the punt comes first", ferry, () -> ferry.setToll(2, 51));
  }

  private static void punts() {
    FloodFerry ferry = withLandings();
    ferry.launch(0, 1, 1, 3, 2, 9);
    ferry.addTraveller(1, 0, 100);
    expectPunt(ferry, 2, 2, 1, 0, 9, 0, 4, 0, 0);
    ferry.pass(4);
    expectPunt(ferry, 6, 2, 1, 0, 9, 0, 0, 0, 4);
    ferry.pass(1);
    expectPunt(ferry, 5, 2, 0, 1, 9, 0, 3, 9, 5);
    ferry.setToll(0, 4);
    ferry.setGround(5, 2, 8);
    expectPunt(ferry, 5, 2, 0, 1, 4, 1, -1, 9, 5);
    ferry.pass(2);
    expectPunt(ferry, 5, 2, 0, 1, 4, 1, -1, 9, 5);
    ferry.setGround(5, 2, 7);
    ferry.setGround(4, 2, 4);
    expectPunt(ferry, 5, 2, 0, 1, 4, 0, 5, 9, 5);
    ferry.setGround(2, 2, 8);
    expectPunt(ferry, 5, 2, 0, 1, 4, 0, -1, 9, 5);
    ferry.pass(1);
    expectPunt(ferry, 5, 2, 0, 1, 4, 0, -1, 9, 5);
    ferry.setGround(5, 2, 4);
    expectPunt(ferry, 5, 2, 0, 1, 4, 1, -1, 9, 5);
    Check.index("punt -1", ferry, () -> ferry.punt(-1, 0));
    Check.index("punt 1", ferry, () -> ferry.punt(1, 0));
    Check.index("what -1", ferry, () -> ferry.punt(0, -1));
    Check.index("what 9", ferry, () -> ferry.punt(0, 9));
  }

  private static void expectPunt(FloodFerry ferry, int... answers) {
    for (int what = 0; what < answers.length; what++) {
      Check.due("hour " + ferry.count(0) + ": punt(0, " + what + ")", ferry.punt(0, what), answers[what]);
    }
  }

  /** Of the shortest ways it takes the cell with the smallest number: up, left, right, down. */
  private static void nextSteps() {
    expectFirstStep(5, 5, 2, 2, 5, 4);
    expectFirstStep(5, 5, 8, 2, 5, 4);
    expectFirstStep(5, 5, 2, 8, 4, 5);
    expectFirstStep(5, 5, 8, 8, 6, 5);
    expectFirstStep(5, 5, 5, 8, 5, 6);
    FloodFerry ferry = new FloodFerry();
    ferry.addLanding(5, 5);
    ferry.addLanding(7, 5);
    ferry.launch(0, 1, 1, 12, 1, 0);
    ferry.setGround(6, 5, 8);
    Check.due("the way round a dry cell", ferry.punt(0, 6), 4);
    ferry.pass(1);
    Check.due("it does not step on the dry cell", ferry.punt(0, 0) * 100 + ferry.punt(0, 1), 504);
  }

  private static void expectFirstStep(int x, int y, int toX, int toY, int stepX, int stepY) {
    FloodFerry ferry = new FloodFerry();
    ferry.addLanding(x, y);
    ferry.addLanding(toX, toY);
    ferry.launch(0, 1, 1, 12, 1, 0);
    ferry.pass(1);
    String what = "step to " + toX + ", " + toY;
    Check.due(what, ferry.punt(0, 0) * 100 + ferry.punt(0, 1), stepX * 100 + stepY);
  }

  private static FloodFerry withLandings() {
    FloodFerry ferry = new FloodFerry();
    ferry.addLanding(2, 2);
    ferry.addLanding(6, 2);
    ferry.addLanding(6, 8);
    return ferry;
  }
}
