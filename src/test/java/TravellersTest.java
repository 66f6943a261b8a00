/** Promises 10 to 12: addTraveller, traveller and landing. */
final class TravellersTest {
  public static void main(String[] args) {
    coming();
    journey();
    landings();
    Check.end();
  }

  private static FloodFerry withLandings() {
    FloodFerry ferry = new FloodFerry();
    ferry.addLanding(0, 0);
    ferry.addLanding(2, 0);
    ferry.addLanding(2, 2);
    ferry.addLanding(9, 9);
    return ferry;
  }

  private static void coming() {
    FloodFerry ferry = withLandings();
    Check.due("its number", ferry.addTraveller(0, 1, 0), 0);
    Check.due("its number", ferry.addTraveller(3, 0, 1000), 1);
    Check.due("purse", ferry.traveller(1, 1), 1000);
    Check.index("from -1", ferry, () -> ferry.addTraveller(-1, 1, 0));
    Check.index("from 4", ferry, () -> ferry.addTraveller(4, 1, 0));
    Check.index("to -1", ferry, () -> ferry.addTraveller(0, -1, 0));
    Check.index("to 4", ferry, () -> ferry.addTraveller(0, 4, 0));
    Check.index("the index comes first", ferry, () -> ferry.addTraveller(4, 4, -1));
    Check.argument("both the same", ferry, () -> ferry.addTraveller(1, 1, 0));
    Check.argument("purse -1", ferry, () -> ferry.addTraveller(0, 1, -1));
    Check.argument("purse 1001", ferry, () -> ferry.addTraveller(0, 1, 1001));
    for (int traveller = 2; traveller < 30; traveller++) {
      Check.due("its number", ferry.addTraveller(0, 1, 5), traveller);
    }
    Check.state("one more than 30", ferry, () -> ferry.addTraveller(0, 1, 5));
    Check.argument("an argument comes before the state", ferry, () -> ferry.addTraveller(0, 0, 5));
    Check.argument("an argument comes before the state", ferry, () -> ferry.addTraveller(0, 1, 1001));
    Check.index("an index comes before the state", ferry, () -> ferry.addTraveller(0, 4, 5));
  }

  private static void journey() {
    FloodFerry ferry = withLandings();
    ferry.launch(1, 0, 1, 12, 1, 3);
    ferry.launch(2, 1, 1, 12, 1, 4);
    ferry.addTraveller(0, 2, 9);
    ferry.addTraveller(0, 3, 9);
    expectTraveller(ferry, 0, 2, 9, 0, -1, 0, 2, -1);
    expectTraveller(ferry, 1, 3, 9, 0, -1, 0, -1, -1);
    ferry.pass(2);
    expectTraveller(ferry, 0, 2, 9, 0, -1, 0, 2, -1);
    ferry.pass(1);
    expectTraveller(ferry, 0, 2, 6, -1, 0, 0, 2, -1);
    ferry.pass(1);
    expectTraveller(ferry, 0, 2, 6, -1, 0, 0, 2, -1);
    ferry.pass(1);
    expectTraveller(ferry, 0, 2, 6, 1, -1, 0, 1, -1);
    ferry.pass(2);
    expectTraveller(ferry, 0, 2, 2, -1, 1, 0, 1, -1);
    Check.due("comes in the hour 8", ferry.pass(1), 0);
    Check.due("comes in the hour 8", ferry.pass(1), 1);
    expectTraveller(ferry, 0, 2, 2, 2, -1, 1, 0, 8);
    ferry.pass(20);
    expectTraveller(ferry, 0, 2, 2, 2, -1, 1, 0, 8);
    expectTraveller(ferry, 1, 3, 9, 0, -1, 0, -1, -1);
    Check.index("traveller -1", ferry, () -> ferry.traveller(-1, 0));
    Check.index("traveller 2", ferry, () -> ferry.traveller(2, 0));
    Check.index("what -1", ferry, () -> ferry.traveller(0, -1));
    Check.index("what 7", ferry, () -> ferry.traveller(0, 7));
  }

  private static void expectTraveller(FloodFerry ferry, int traveller, int... answers) {
    for (int what = 0; what < answers.length; what++) {
      String call = "hour " + ferry.count(0) + ": traveller(" + traveller + ", " + what + ")";
      Check.due(call, ferry.traveller(traveller, what), answers[what]);
    }
  }

  private static void landings() {
    FloodFerry ferry = withLandings();
    ferry.launch(0, 1, 1, 12, 2, 0);
    ferry.launch(1, 2, 1, 12, 2, 0);
    for (int traveller = 0; traveller < 3; traveller++) {
      ferry.addTraveller(1, 0, 0);
    }
    expectLanding(ferry, 0, 0, 0, 0, 0, 1);
    expectLanding(ferry, 1, 2, 0, 3, 0, 2);
    expectLanding(ferry, 2, 2, 2, 0, 0, 1);
    expectLanding(ferry, 3, 9, 9, 0, 0, 0);
    ferry.pass(3);
    expectLanding(ferry, 1, 2, 0, 1, 0, 2);
    ferry.pass(2);
    expectLanding(ferry, 0, 0, 0, 0, 2, 1);
    ferry.addTraveller(0, 3, 0);
    expectLanding(ferry, 0, 0, 0, 1, 2, 1);
    Check.index("landing -1", ferry, () -> ferry.landing(-1, 0));
    Check.index("landing 4", ferry, () -> ferry.landing(4, 0));
    Check.index("what -1", ferry, () -> ferry.landing(0, -1));
    Check.index("what 5", ferry, () -> ferry.landing(0, 5));
  }

  private static void expectLanding(FloodFerry ferry, int landing, int... answers) {
    for (int what = 0; what < answers.length; what++) {
      String call = "hour " + ferry.count(0) + ": landing(" + landing + ", " + what + ")";
      Check.due(call, ferry.landing(landing, what), answers[what]);
    }
  }
}
