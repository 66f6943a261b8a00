/** Promises 13 and 14: pass and count. */
final class HoursTest {
  public static void main(String[] args) {
    bounds();
    loading();
    changing();
    loadingAground();
    sameHourChange();
    backByTheSamePunt();
    manyAtOnce();
    counts();
    Check.end();
  }

  private static FloodFerry withLandings() {
    FloodFerry ferry = new FloodFerry();
    ferry.addLanding(0, 0);
    ferry.addLanding(3, 0);
    ferry.addLanding(3, 3);
    return ferry;
  }

  private static void bounds() {
    FloodFerry ferry = new FloodFerry();
    Check.argument("hours 0", ferry, () -> ferry.pass(0));
    Check.argument("hours -1", ferry, () -> ferry.pass(-1));
    Check.argument("hours 101", ferry, () -> ferry.pass(101));
    Check.due("pass(1)", ferry.pass(1), 0);
    Check.due("the hour", ferry.count(0), 1);
    Check.due("pass(100)", ferry.pass(100), 0);
    Check.due("the hour", ferry.count(0), 101);
  }

  /** In ascending order, as long as there is room; who cannot pay stays, and the next is looked at. */
  private static void loading() {
    FloodFerry ferry = withLandings();
    ferry.launch(1, 0, 1, 12, 2, 10);
    ferry.addTraveller(0, 1, 9);
    ferry.addTraveller(0, 2, 99);
    ferry.addTraveller(0, 1, 10);
    ferry.addTraveller(0, 1, 11);
    ferry.addTraveller(0, 1, 12);
    ferry.pass(4);
    expectPunts(ferry, -1, -1, 0, 0, -1);
    Check.due("paid at once", ferry.traveller(2, 1) * 100 + ferry.traveller(3, 1), 1);
    Check.due("taken", ferry.punt(0, 7), 20);
    Check.due("it has gone a step in the hour of loading", ferry.punt(0, 0), 1);
    ferry.setToll(0, 9);
    Check.due("both come", ferry.pass(3), 2);
    Check.due("the new toll is for those who get in later", ferry.pass(3), 0);
    expectPunts(ferry, 0, -1, -1, -1, 0);
    Check.due("taken", ferry.punt(0, 7), 38);
  }

  private static void expectPunts(FloodFerry ferry, int... punts) {
    for (int traveller = 0; traveller < punts.length; traveller++) {
      String what = "hour " + ferry.count(0) + ": the punt of traveller " + traveller;
      Check.due(what, ferry.traveller(traveller, 3), punts[traveller]);
    }
  }

  /** One takes the smallest punt that begins a shortest chain, and no other, even to wait for it. */
  private static void changing() {
    FloodFerry ferry = withLandings();
    ferry.launch(2, 0, 1, 12, 1, 0);
    ferry.launch(1, 0, 1, 12, 1, 0);
    ferry.launch(1, 2, 1, 12, 1, 0);
    ferry.addTraveller(0, 2, 0);
    ferry.pass(5);
    expectPunts(ferry, -1);
    ferry.pass(2);
    expectPunts(ferry, 0);
    Check.due("comes in the hour 12", ferry.pass(6) * 100 + ferry.traveller(0, 6), 112);
  }

  private static void loadingAground() {
    FloodFerry ferry = withLandings();
    ferry.launch(1, 0, 1, 12, 1, 0);
    ferry.addTraveller(0, 1, 0);
    ferry.pass(3);
    ferry.setGround(0, 0, 20);
    ferry.pass(1);
    expectPunts(ferry, 0);
    Check.due("it is aground there", ferry.punt(0, 5), 1);
    Check.due("and has not gone on", ferry.punt(0, 8), 3);
    Check.due("but is bound for the other one", ferry.punt(0, 2), 1);
    ferry.pass(2);
    Check.due("and waits there", ferry.punt(0, 0) * 10 + ferry.punt(0, 2), 1);
  }

  /** Who gets out of the punt 0 finds the punt 1 in the same hour, but not the other way round. */
  private static void sameHourChange() {
    FloodFerry ferry = withLandings();
    ferry.launch(1, 0, 1, 12, 1, 0);
    ferry.launch(1, 2, 1, 12, 1, 0);
    ferry.addTraveller(0, 2, 0);
    ferry.addTraveller(2, 0, 0);
    ferry.pass(6);
    expectPunts(ferry, 0, 1);
    ferry.pass(1);
    expectPunts(ferry, 1, -1);
    Check.due("the other one waits", ferry.traveller(1, 2), 1);
  }

  /** A punt that is launched while one rides makes the way back the shorter one. */
  private static void backByTheSamePunt() {
    FloodFerry ferry = new FloodFerry();
    for (int landing = 0; landing < 5; landing++) {
      ferry.addLanding(landing * 2, 0);
    }
    ferry.launch(1, 0, 1, 12, 1, 0);
    ferry.launch(1, 2, 1, 12, 1, 0);
    ferry.launch(2, 3, 1, 12, 1, 0);
    ferry.launch(3, 4, 1, 12, 1, 0);
    ferry.addTraveller(0, 4, 0);
    ferry.pass(3);
    Check.due("in a punt, and three more", ferry.traveller(0, 5), 4);
    ferry.launch(4, 0, 1, 12, 1, 0);
    Check.due("in a punt, back with it, and one more", ferry.traveller(0, 5), 3);
    ferry.pass(2);
    expectPunts(ferry, 0);
    Check.due("back", ferry.traveller(0, 5), 2);
  }

  private static void manyAtOnce() {
    FloodFerry one = withLandings();
    FloodFerry other = withLandings();
    for (FloodFerry ferry : new FloodFerry[] {one, other}) {
      ferry.setWater(5, 5);
      ferry.setWater(7, 24);
      ferry.launch(0, 1, 1, 12, 2, 5);
      ferry.launch(2, 1, 2, 12, 2, 5);
      for (int traveller = 0; traveller < 9; traveller++) {
        ferry.addTraveller(traveller % 3, (traveller + 1 + traveller / 3 % 2) % 3, 20);
      }
    }
    int came = 0;
    for (int hour = 0; hour < 100; hour++) {
      came += one.pass(1);
    }
    Check.due("who came in 100 hours", other.pass(100), came);
    Check.due("digest()", other.digest(), one.digest());
  }

  private static void counts() {
    FloodFerry ferry = withLandings();
    ferry.setStake(5, 5, 3);
    ferry.setStake(6, 6, 4);
    ferry.setStake(7, 7, 9);
    ferry.setWater(5, 20);
    ferry.launch(1, 0, 1, 12, 1, 10);
    ferry.launch(2, 1, 3, 3, 1, 7);
    ferry.launch(0, 2, 4, 12, 1, 0);
    ferry.addTraveller(0, 1, 100);
    ferry.addTraveller(0, 1, 100);
    ferry.addTraveller(1, 2, 100);
    expectCounts(ferry, 0, 8, 3, 3, 3, 3, 0, 0, 0, 1, 2);
    ferry.pass(4);
    expectCounts(ferry, 4, 8, 3, 3, 3, 1, 2, 0, 17, 1, 2);
    ferry.pass(1);
    expectCounts(ferry, 5, 20, 3, 3, 3, 1, 2, 0, 17, 3, 0);
    ferry.pass(1);
    expectCounts(ferry, 6, 8, 3, 3, 3, 1, 2, 0, 17, 1, 2);
    ferry.pass(3);
    expectCounts(ferry, 9, 8, 3, 3, 3, 1, 0, 2, 17, 1, 2);
    Check.index("what -1", ferry, () -> ferry.count(-1));
    Check.index("what 11", ferry, () -> ferry.count(11));
  }

  private static void expectCounts(FloodFerry ferry, int... answers) {
    for (int what = 0; what < answers.length; what++) {
      Check.due("hour " + ferry.count(0) + ": count(" + what + ")", ferry.count(what), answers[what]);
    }
  }
}
