/**
 * The boundary cases of travellers and of their landings: "Terms" and the promises 10 to 12. Each
 * test bears the sentence of the document that it holds to.
 */
final class TravellerEdgesTest {
  public static void main(String[] args) {
    travellersFromZeroToTwentyNine();
    aThirtyFirst();
    noSuchLanding();
    oneLandingAlone();
    theLastLanding();
    purseFromZeroToAThousand();
    addTravellerNamesTheFirst();
    refusedTravellers();
    travellerRefused();
    aNewTraveller();
    waitsOrRidesOrHasCome();
    whereOneIs();
    noChain();
    aChainOfSix();
    theSoonestHour();
    landingRefused();
    nobodyAtALanding();
    allAtALanding();
    allComeToALanding();
    puntsOfALanding();
    Check.end();
  }

  private static FloodFerry withLandings(int landings) {
    FloodFerry ferry = new FloodFerry();
    for (int landing = 0; landing < landings; landing++) {
      ferry.addLanding(landing, 0);
    }
    return ferry;
  }

  private static void expectTraveller(FloodFerry ferry, int traveller, int... answers) {
    for (int what = 0; what < answers.length; what++) {
      String call = "hour " + ferry.count(0) + ": traveller(" + traveller + ", " + what + ")";
      Check.due(call, ferry.traveller(traveller, what), answers[what]);
    }
  }

  /** "Travellers. There are at most 30, numbered likewise." */
  private static void travellersFromZeroToTwentyNine() {
    FloodFerry ferry = withLandings(3);
    Check.due("no travellers", ferry.count(4), 0);
    for (int traveller = 0; traveller < 30; traveller++) {
      Check.due("its number", ferry.addTraveller(traveller % 3, (traveller + 1) % 3, traveller), traveller);
      Check.due("travellers", ferry.count(4), traveller + 1);
    }
    for (int traveller = 0; traveller < 30; traveller++) {
      Check.due("its landing", ferry.traveller(traveller, 2), traveller % 3);
      Check.due("its wish", ferry.traveller(traveller, 0), (traveller + 1) % 3);
      Check.due("its purse", ferry.traveller(traveller, 1), traveller);
    }
  }

  /** "Throws IllegalStateException if there are 30". */
  private static void aThirtyFirst() {
    FloodFerry ferry = withLandings(2);
    for (int traveller = 0; traveller < 30; traveller++) {
      ferry.addTraveller(0, 1, traveller);
    }
    Check.state("one more", ferry, () -> ferry.addTraveller(1, 0, 7));
    Check.due("travellers", ferry.count(4), 30);
    Check.due("those who wait", ferry.landing(1, 2), 0);
    Check.index("it has no number", ferry, () -> ferry.traveller(30, 0));
    Check.due("the last one is as it was", ferry.traveller(29, 1), 29);
  }

  /** Those who have come are there yet: they make no place for others. */
  private static void allComeToALanding() {
    FloodFerry ferry = withLandings(2);
    ferry.launch(0, 1, 1, 12, 6, 0);
    for (int traveller = 0; traveller < 30; traveller++) {
      ferry.addTraveller(1, 0, 0);
    }
    Check.due("all come", ferry.pass(11), 30);
    Check.due("nobody waits at their landing", ferry.landing(1, 2), 0);
    Check.due("nobody waits where they come", ferry.landing(0, 2), 0);
    Check.due("all have come there", ferry.landing(0, 3), 30);
    Check.due("and nobody to the other one", ferry.landing(1, 3), 0);
    Check.state("one more", ferry, () -> ferry.addTraveller(0, 1, 0));
  }

  /** "Throws IndexOutOfBoundsException if there is no such landing". */
  private static void noSuchLanding() {
    FloodFerry empty = new FloodFerry();
    Check.index("no landings", empty, () -> empty.addTraveller(0, 1, 0));
    Check.index("no landings", empty, () -> empty.addTraveller(0, 0, 0));
    FloodFerry ferry = withLandings(2);
    Check.index("from -1", ferry, () -> ferry.addTraveller(-1, 1, 0));
    Check.index("from 2 of 2", ferry, () -> ferry.addTraveller(2, 1, 0));
    Check.index("to -1", ferry, () -> ferry.addTraveller(1, -1, 0));
    Check.index("to 2 of 2", ferry, () -> ferry.addTraveller(1, 2, 0));
  }

  /** The same, and "if both are the same", with no other landing there. */
  private static void oneLandingAlone() {
    FloodFerry ferry = withLandings(1);
    Check.index("to none", ferry, () -> ferry.addTraveller(0, 1, 0));
    Check.index("from none", ferry, () -> ferry.addTraveller(1, 0, 0));
    Check.argument("both the same", ferry, () -> ferry.addTraveller(0, 0, 0));
    ferry.addLanding(13, 13);
    Check.due("with a second one", ferry.addTraveller(0, 1, 0), 0);
  }

  /** "from: this landing; to: that to which this one wants to go": the first one and the last. */
  private static void theLastLanding() {
    FloodFerry ferry = withLandings(8);
    Check.due("from the last", ferry.addTraveller(7, 0, 1), 0);
    Check.due("to the last", ferry.addTraveller(0, 7, 2), 1);
    expectTraveller(ferry, 0, 0, 1, 7, -1, 0, -1, -1);
    expectTraveller(ferry, 1, 7, 2, 0, -1, 0, -1, -1);
    Check.argument("both the last", ferry, () -> ferry.addTraveller(7, 7, 0));
    Check.index("from 8 of 8", ferry, () -> ferry.addTraveller(8, 7, 0));
    Check.index("to 8 of 8", ferry, () -> ferry.addTraveller(7, 8, 0));
  }

  /** "Each has a purse, 0 to 1000". */
  private static void purseFromZeroToAThousand() {
    FloodFerry ferry = withLandings(2);
    Check.argument("purse -1", ferry, () -> ferry.addTraveller(0, 1, -1));
    Check.argument("purse 1001", ferry, () -> ferry.addTraveller(0, 1, 1001));
    Check.due("purse 0", ferry.addTraveller(0, 1, 0), 0);
    Check.due("purse 1000", ferry.addTraveller(0, 1, 1000), 1);
    Check.due("purse 0", ferry.traveller(0, 1), 0);
    Check.due("purse 1000", ferry.traveller(1, 1), 1000);
  }

  /** "If several exceptions apply, the one that is named first is thrown." */
  private static void addTravellerNamesTheFirst() {
    FloodFerry ferry = withLandings(2);
    Check.index("from none, and purse -1", ferry, () -> ferry.addTraveller(2, 1, -1));
    Check.index("to none, and purse 1001", ferry, () -> ferry.addTraveller(0, -1, 1001));
    Check.index("both the same, and none", ferry, () -> ferry.addTraveller(2, 2, 0));
    for (int traveller = 0; traveller < 30; traveller++) {
      ferry.addTraveller(0, 1, 0);
    }
    Check.index("from none, and there are 30", ferry, () -> ferry.addTraveller(2, 1, 0));
    Check.index("to none, and there are 30", ferry, () -> ferry.addTraveller(0, -1, 0));
    Check.argument("both the same, and there are 30", ferry, () -> ferry.addTraveller(1, 1, 0));
    Check.argument("purse -1, and there are 30", ferry, () -> ferry.addTraveller(0, 1, -1));
    Check.argument("purse 1001, and there are 30", ferry, () -> ferry.addTraveller(0, 1, 1001));
  }

  /** "A method that throws an exception changes nothing": the next one is as if it were the first. */
  private static void refusedTravellers() {
    FloodFerry ferry = withLandings(2);
    Check.argument("purse 1001", ferry, () -> ferry.addTraveller(1, 0, 1001));
    Check.argument("both the same", ferry, () -> ferry.addTraveller(1, 1, 5));
    Check.due("nobody waits", ferry.landing(1, 2), 0);
    Check.due("nobody is there", ferry.count(4), 0);
    Check.due("the number of the next one", ferry.addTraveller(0, 1, 9), 0);
    expectTraveller(ferry, 0, 1, 9, 0, -1, 0, -1, -1);
  }

  /** "Throws IndexOutOfBoundsException if there is no such traveller, or what is not 0 to 6". */
  private static void travellerRefused() {
    FloodFerry ferry = withLandings(2);
    Check.index("no travellers", ferry, () -> ferry.traveller(0, 0));
    ferry.addTraveller(0, 1, 3);
    Check.index("traveller -1", ferry, () -> ferry.traveller(-1, 0));
    Check.index("traveller 1 of 1", ferry, () -> ferry.traveller(1, 0));
    Check.index("what -1", ferry, () -> ferry.traveller(0, -1));
    Check.index("what 7", ferry, () -> ferry.traveller(0, 7));
    Check.due("what 0", ferry.traveller(0, 0), 1);
    Check.due("what 6", ferry.traveller(0, 6), -1);
  }

  /** "Has a traveller come to a landing": one waits there, whatever the hour is. */
  private static void aNewTraveller() {
    FloodFerry ferry = withLandings(3);
    ferry.launch(1, 2, 1, 12, 1, 5);
    ferry.pass(12);
    Check.due("its number", ferry.addTraveller(2, 1, 8), 0);
    expectTraveller(ferry, 0, 1, 8, 2, -1, 0, 1, -1);
    Check.due("one who waits", ferry.count(5), 1);
  }

  /** "one waits at a landing, is in a punt, or has come": one of them at each time. */
  private static void waitsOrRidesOrHasCome() {
    FloodFerry ferry = withLandings(3);
    ferry.launch(1, 0, 1, 12, 1, 0);
    ferry.launch(2, 1, 1, 12, 1, 0);
    ferry.addTraveller(0, 2, 0);
    int[][] counts = {
      {1, 0, 0}, {1, 0, 0}, {0, 1, 0}, {1, 0, 0}, {0, 1, 0}, {0, 0, 1}, {0, 0, 1}
    };
    for (int hour = 0; hour < counts.length; hour++) {
      for (int state = 0; state < 3; state++) {
        String what = "hour " + hour + ": count(" + (5 + state) + ")";
        Check.due(what, ferry.count(5 + state), counts[hour][state]);
      }
      ferry.pass(1);
    }
  }

  /** "2 the landing where this one is, -1 in a punt, 3 the punt, -1 at a landing". */
  private static void whereOneIs() {
    FloodFerry ferry = withLandings(8);
    ferry.launch(1, 0, 1, 12, 1, 0);
    for (int punt = 1; punt < 5; punt++) {
      ferry.launch(punt + 1, punt, 1, 12, 1, 0);
    }
    ferry.launch(6, 7, 1, 12, 1, 0);
    ferry.addTraveller(0, 1, 0);
    ferry.addTraveller(7, 6, 0);
    int[][] places = {{0, -1, 7, -1}, {0, -1, 7, -1}, {-1, 0, -1, 5}, {1, -1, 6, -1}};
    for (int hour = 0; hour < places.length; hour++) {
      for (int answer = 0; answer < 4; answer++) {
        String what = "hour " + hour + ": traveller(" + answer / 2 + ", " + (2 + answer % 2) + ")";
        Check.due(what, ferry.traveller(answer / 2, 2 + answer % 2), places[hour][answer]);
      }
      ferry.pass(1);
    }
  }

  /** "5 how many punts the chain from here has yet, -1 if there is none". */
  private static void noChain() {
    FloodFerry ferry = withLandings(3);
    ferry.addTraveller(0, 2, 0);
    Check.due("no punts", ferry.traveller(0, 5), -1);
    ferry.launch(0, 1, 1, 12, 1, 0);
    Check.due("no punt goes there", ferry.traveller(0, 5), -1);
    ferry.pass(5);
    Check.due("one waits all the time", ferry.traveller(0, 2), 0);
    ferry.launch(2, 1, 1, 12, 1, 0);
    Check.due("by two punts", ferry.traveller(0, 5), 2);
    ferry.launch(2, 0, 1, 12, 1, 0);
    Check.due("by one punt", ferry.traveller(0, 5), 1);
  }

  /** "(0 for who has come; in a punt 1, and those of the chain from the landing ...)". */
  private static void aChainOfSix() {
    FloodFerry ferry = withLandings(7);
    for (int punt = 0; punt < 6; punt++) {
      ferry.launch(punt + 1, punt, 1, 12, 1, 50);
    }
    ferry.addTraveller(0, 6, 300);
    expectTraveller(ferry, 0, 6, 300, 0, -1, 0, 6, -1);
    ferry.pass(1);
    expectTraveller(ferry, 0, 6, 300, 0, -1, 0, 6, -1);
    for (int punt = 0; punt < 6; punt++) {
      int purse = 300 - 50 * (punt + 1);
      Check.due("one rides", ferry.pass(1), 0);
      expectTraveller(ferry, 0, 6, purse, -1, punt, 0, 6 - punt, -1);
      Check.due("one gets out", ferry.pass(1), punt == 5 ? 1 : 0);
      expectTraveller(ferry, 0, 6, purse, punt + 1, -1, punt == 5 ? 1 : 0, 5 - punt, punt == 5 ? 12 : -1);
    }
  }

  /** "6 the hour when this one came, -1 if not": the first hour in which one can. */
  private static void theSoonestHour() {
    FloodFerry ferry = withLandings(2);
    ferry.launch(1, 0, 1, 12, 1, 0);
    ferry.addTraveller(0, 1, 0);
    Check.due("nobody comes in the hours 0 and 1", ferry.pass(2), 0);
    Check.due("not yet", ferry.traveller(0, 6), -1);
    Check.due("one comes in the hour 2", ferry.pass(1), 1);
    Check.due("it is told", ferry.traveller(0, 6), 2);
    ferry.pass(24);
    Check.due("and stays so", ferry.traveller(0, 6), 2);
  }

  /** "Throws IndexOutOfBoundsException if there is no such landing, or what is not 0 to 4". */
  private static void landingRefused() {
    FloodFerry empty = new FloodFerry();
    Check.index("no landings", empty, () -> empty.landing(0, 0));
    FloodFerry ferry = withLandings(8);
    Check.index("landing -1", ferry, () -> ferry.landing(-1, 0));
    Check.index("landing 8 of 8", ferry, () -> ferry.landing(8, 0));
    Check.index("what -1", ferry, () -> ferry.landing(7, -1));
    Check.index("what 5", ferry, () -> ferry.landing(7, 5));
    Check.due("what 0", ferry.landing(7, 0), 7);
    Check.due("what 4", ferry.landing(7, 4), 0);
  }

  /** "2 travellers who wait there, 3 those who have come there, 4 punts": none of all. */
  private static void nobodyAtALanding() {
    FloodFerry ferry = new FloodFerry();
    ferry.addLanding(13, 12);
    int[] answers = {13, 12, 0, 0, 0};
    for (int what = 0; what < answers.length; what++) {
      Check.due("landing(0, " + what + ")", ferry.landing(0, what), answers[what]);
    }
  }

  /** "2 travellers who wait there": as many as can be. */
  private static void allAtALanding() {
    FloodFerry ferry = withLandings(8);
    for (int traveller = 0; traveller < 30; traveller++) {
      Check.due("those who wait", ferry.landing(7, 2), traveller);
      ferry.addTraveller(7, traveller % 7, 0);
    }
    Check.due("those who wait", ferry.landing(7, 2), 30);
    Check.due("nobody waits where they want to be", ferry.landing(0, 2), 0);
    Check.due("nobody has come", ferry.landing(7, 3), 0);
  }

  /** "4 punts of which it is the home or the goal": none, and as many as can be. */
  private static void puntsOfALanding() {
    FloodFerry ferry = withLandings(8);
    for (int punt = 0; punt < 6; punt++) {
      Check.due("punts of the last landing", ferry.landing(7, 4), punt);
      ferry.launch(punt % 2 == 0 ? 7 : punt, punt % 2 == 0 ? punt : 7, 1, 12, 1, 0);
    }
    Check.due("punts of the last landing", ferry.landing(7, 4), 6);
    for (int landing = 0; landing < 7; landing++) {
      Check.due("punts of the landing " + landing, ferry.landing(landing, 4), landing < 6 ? 1 : 0);
    }
  }
}
