/**
 * The boundary cases of what an hour does, and of the promises 13 and 14. Each test bears the
 * sentence of the document that it holds to.
 */
final class HourEdgesTest {
  public static void main(String[] args) {
    oneToAHundredHours();
    hoursRefused();
    anHourWithNothing();
    oneHourAfterAnother();
    landsAtItsGoalFirst();
    landsWhereItIsBoundForAlone();
    staysAtItsHome();
    allGetOut();
    whoComesStays();
    whoChangesWaits();
    boundForTheOtherOne();
    roomIsFilledAndNoMore();
    placesOfThoseWhoGetOut();
    inAscendingOrder();
    justEnoughInThePurse();
    tollsOfZeroAndFifty();
    theNextOneIsLookedAt();
    nobodyCanPay();
    paidAtOnce();
    paidOnceAPunt();
    puntsByTheirNumbers();
    onlyThePuntThatOneTakes();
    agroundNoStep();
    agroundAtALanding();
    noWayNoStep();
    aWayInOneHourOfTwelve();
    atMostOneStepAnHour();
    countRefused();
    countsOfNothing();
    allAgroundAndNone();
    allInPunts();
    tollsInAll();
    tollsToOnePunt();
    Check.end();
  }

  private static FloodFerry withLandings(int landings) {
    FloodFerry ferry = new FloodFerry();
    for (int landing = 0; landing < landings; landing++) {
      ferry.addLanding(landing, 0);
    }
    return ferry;
  }

  /** From the hour 1 on it lands at the landing 0 in odd hours, and at the landing 1 in even ones. */
  private static FloodFerry withOnePunt(int room, int toll) {
    FloodFerry ferry = withLandings(2);
    ferry.launch(1, 0, 1, 12, room, toll);
    return ferry;
  }

  private static void expectPunts(String what, FloodFerry ferry, int... punts) {
    for (int traveller = 0; traveller < punts.length; traveller++) {
      Check.due(what + ": the punt of " + traveller, ferry.traveller(traveller, 3), punts[traveller]);
    }
  }

  /** "pass ... if hours is not 1 to 100". */
  private static void oneToAHundredHours() {
    FloodFerry ferry = new FloodFerry();
    Check.due("pass(1)", ferry.pass(1), 0);
    Check.due("the hour", ferry.count(0), 1);
    Check.due("pass(100)", ferry.pass(100), 0);
    Check.due("the hour", ferry.count(0), 101);
    Check.due("pass(99)", ferry.pass(99), 0);
    Check.due("the hour", ferry.count(0), 200);
  }

  /** The same: no hour goes by. */
  private static void hoursRefused() {
    FloodFerry ferry = withOnePunt(1, 0);
    ferry.addTraveller(0, 1, 0);
    ferry.pass(1);
    Check.argument("hours 0", ferry, () -> ferry.pass(0));
    Check.argument("hours -1", ferry, () -> ferry.pass(-1));
    Check.argument("hours 101", ferry, () -> ferry.pass(101));
    Check.due("the hour", ferry.count(0), 1);
    Check.due("the punt has not gone on", ferry.punt(0, 8), 1);
    expectPunts("nobody got in", ferry, -1);
  }

  /** "The hour is 1 greater.": with nothing there, and with nobody to come. */
  private static void anHourWithNothing() {
    FloodFerry ferry = new FloodFerry();
    Check.due("with nothing", ferry.pass(1), 0);
    ferry.addLanding(0, 0);
    Check.due("with a landing", ferry.pass(1), 0);
    ferry.addLanding(1, 0);
    ferry.addTraveller(0, 1, 9);
    Check.due("with a traveller", ferry.pass(1), 0);
    Check.due("one waits", ferry.landing(0, 2), 1);
    ferry.launch(0, 1, 1, 12, 1, 0);
    Check.due("with a punt", ferry.pass(1), 0);
    Check.due("the hour", ferry.count(0), 4);
  }

  /** "Lets hours go by": as many at once as one by one. */
  private static void oneHourAfterAnother() {
    for (int hours : new int[] {1, 2, 11, 12, 13, 99, 100}) {
      FloodFerry atOnce = Scene.MOST.build();
      FloodFerry oneByOne = Scene.MOST.build();
      int came = 0;
      for (int hour = 0; hour < hours; hour++) {
        came += oneByOne.pass(1);
      }
      Check.due("pass(" + hours + ")", atOnce.pass(hours), came);
      Check.due("digest() behind " + hours, atOnce.digest(), oneByOne.digest());
    }
  }

  /** "a new one, which is bound for its goal, lands there first": it does not load at its home. */
  private static void landsAtItsGoalFirst() {
    FloodFerry ferry = withOnePunt(1, 0);
    ferry.addTraveller(1, 0, 0);
    ferry.pass(1);
    expectPunts("hour 0: at its home", ferry, -1);
    Check.due("at its goal", ferry.punt(0, 0), 0);
    ferry.pass(1);
    expectPunts("hour 1: at its goal", ferry, -1);
    ferry.pass(1);
    expectPunts("hour 2: at its home", ferry, 0);
  }

  /** "A punt on the cell of the landing for which it is bound": another landing is nothing to it. */
  private static void landsWhereItIsBoundForAlone() {
    FloodFerry ferry = new FloodFerry();
    ferry.addLanding(0, 0);
    ferry.addLanding(2, 0);
    ferry.addLanding(4, 0);
    ferry.launch(2, 0, 1, 12, 1, 0);
    ferry.launch(1, 2, 1, 12, 1, 0);
    ferry.addTraveller(0, 1, 0);
    ferry.pass(6);
    Check.due("the punt is on the cell of the landing 1", ferry.punt(0, 0), 2);
    expectPunts("with who wants to be there", ferry, 0);
    Check.due("nobody comes in the hour 6", ferry.pass(1), 0);
    Check.due("the punt has gone on", ferry.punt(0, 0), 3);
    expectPunts("with this one in it", ferry, 0);
    Check.due("nobody comes in the hours 7 to 11", ferry.pass(5), 0);
    Check.due("but in the hour 12, by the other punt", ferry.pass(1), 1);
  }

  /** The same for a punt at its home that finds no way to its goal. */
  private static void staysAtItsHome() {
    FloodFerry ferry = withOnePunt(6, 0);
    ferry.setGround(0, 0, 20);
    ferry.addTraveller(1, 0, 0);
    Check.due("nobody comes", ferry.pass(30), 0);
    expectPunts("nobody gets in", ferry, -1);
    Check.due("it is bound for its goal yet", ferry.punt(0, 2), 0);
    Check.due("it is at its home yet", ferry.punt(0, 0), 1);
  }

  /** "All travellers in it get out; who is where one wants to be has come, others wait there." */
  private static void allGetOut() {
    FloodFerry ferry = withLandings(3);
    ferry.launch(1, 0, 1, 12, 6, 0);
    ferry.launch(2, 1, 1, 12, 6, 0);
    for (int traveller = 0; traveller < 6; traveller++) {
      ferry.addTraveller(0, 1 + traveller % 2, 0);
    }
    ferry.pass(2);
    Check.due("all ride", ferry.punt(0, 3), 6);
    Check.due("three come", ferry.pass(1), 3);
    Check.due("nobody rides", ferry.punt(0, 3), 0);
    Check.due("three wait there", ferry.landing(1, 2), 3);
    Check.due("three have come there", ferry.landing(1, 3), 3);
    for (int traveller = 0; traveller < 6; traveller++) {
      Check.due("the landing of all", ferry.traveller(traveller, 2), 1);
      Check.due("who has come", ferry.traveller(traveller, 4), 1 - traveller % 2);
      Check.due("when", ferry.traveller(traveller, 6), traveller % 2 == 0 ? 2 : -1);
    }
  }

  /** The same: who has come gets into no punt any more, and pays no toll. */
  private static void whoComesStays() {
    FloodFerry ferry = withOnePunt(6, 5);
    ferry.addTraveller(0, 1, 1000);
    Check.due("one comes", ferry.pass(3), 1);
    Check.due("and not once more", ferry.pass(100), 0);
    Check.due("the landing", ferry.traveller(0, 2), 1);
    Check.due("the purse", ferry.traveller(0, 1), 995);
    Check.due("the hour", ferry.traveller(0, 6), 2);
    Check.due("tolls", ferry.count(8), 5);
  }

  /** The same: who waits at the landing between two punts is one of its travellers. */
  private static void whoChangesWaits() {
    FloodFerry ferry = withLandings(3);
    ferry.launch(1, 0, 1, 12, 1, 0);
    ferry.launch(2, 1, 1, 12, 1, 0);
    ferry.setGround(2, 0, 20);
    ferry.addTraveller(0, 2, 0);
    Check.due("nobody comes", ferry.pass(50), 0);
    Check.due("one waits, as the second punt is aground", ferry.landing(1, 2), 1);
    Check.due("for a chain of one punt", ferry.traveller(0, 5), 1);
    ferry.setGround(2, 0, 5);
    Check.due("it goes", ferry.pass(3), 1);
  }

  /** "It is bound for its other landing now." */
  private static void boundForTheOtherOne() {
    FloodFerry ferry = withOnePunt(1, 0);
    int[] bound = {0, 0, 1, 0, 1, 0, 1};
    for (int hour = 0; hour < bound.length; hour++) {
      Check.due("bound for, hour " + hour, ferry.punt(0, 2), bound[hour]);
      ferry.pass(1);
    }
  }

  /** "as long as there is room": one less, as many, and one more than that. */
  private static void roomIsFilledAndNoMore() {
    for (int room = 1; room <= 6; room++) {
      for (int travellers = 0; travellers <= 8; travellers++) {
        FloodFerry ferry = withOnePunt(room, 0);
        for (int traveller = 0; traveller < travellers; traveller++) {
          ferry.addTraveller(0, 1, 0);
        }
        ferry.pass(2);
        int ride = Math.min(room, travellers);
        String what = travellers + " for the room " + room;
        Check.due(what + ", ride", ferry.punt(0, 3), ride);
        Check.due(what + ", wait", ferry.landing(0, 2), travellers - ride);
        for (int traveller = 0; traveller < travellers; traveller++) {
          Check.due(what + ", the punt", ferry.traveller(traveller, 3), traveller < ride ? 0 : -1);
        }
        Check.due(what + ", come", ferry.pass(1), ride);
      }
    }
  }

  /** The same: those who get out leave their places in the same hour. */
  private static void placesOfThoseWhoGetOut() {
    FloodFerry ferry = withOnePunt(1, 0);
    ferry.addTraveller(0, 1, 0);
    ferry.addTraveller(1, 0, 0);
    ferry.pass(2);
    expectPunts("hour 2", ferry, 0, -1);
    Check.due("one comes", ferry.pass(1), 1);
    expectPunts("hour 3", ferry, -1, 0);
    Check.due("the other one comes", ferry.pass(1), 1);
  }

  /** "in ascending order". */
  private static void inAscendingOrder() {
    FloodFerry ferry = withOnePunt(2, 0);
    for (int traveller = 0; traveller < 7; traveller++) {
      ferry.addTraveller(traveller % 3 == 0 ? 1 : 0, traveller % 3 == 0 ? 0 : 1, 0);
    }
    ferry.pass(2);
    expectPunts("hour 2", ferry, -1, 0, 0, -1, -1, -1, -1);
    ferry.pass(1);
    expectPunts("hour 3", ferry, 0, -1, -1, 0, -1, -1, -1);
    ferry.pass(1);
    expectPunts("hour 4", ferry, -1, -1, -1, -1, 0, 0, -1);
    ferry.pass(1);
    expectPunts("hour 5", ferry, -1, -1, -1, -1, -1, -1, 0);
  }

  /** "and as they can pay its toll": with one less, with just as much, and with one more. */
  private static void justEnoughInThePurse() {
    for (int toll = 1; toll <= 50; toll += 7) {
      FloodFerry ferry = withOnePunt(6, toll);
      for (int more = -1; more <= 1; more++) {
        ferry.addTraveller(0, 1, toll + more);
      }
      ferry.pass(2);
      expectPunts("toll " + toll, ferry, -1, 0, 0);
      Check.due("nothing paid", ferry.traveller(0, 1), toll - 1);
      Check.due("nothing left", ferry.traveller(1, 1), 0);
      Check.due("one left", ferry.traveller(2, 1), 1);
      Check.due("taken", ferry.punt(0, 7), 2 * toll);
    }
  }

  /** The same with the least toll and the most, and the least purse and the most. */
  private static void tollsOfZeroAndFifty() {
    FloodFerry free = withOnePunt(6, 0);
    free.addTraveller(0, 1, 0);
    free.addTraveller(0, 1, 1000);
    free.pass(2);
    expectPunts("toll 0", free, 0, 0);
    Check.due("nothing taken", free.punt(0, 7), 0);
    Check.due("nothing paid", free.traveller(1, 1), 1000);
    FloodFerry dear = withOnePunt(6, 50);
    dear.addTraveller(0, 1, 49);
    dear.addTraveller(0, 1, 50);
    dear.addTraveller(0, 1, 1000);
    dear.pass(2);
    expectPunts("toll 50", dear, -1, 0, 0);
    Check.due("taken", dear.punt(0, 7), 100);
    Check.due("left", dear.traveller(2, 1), 950);
  }

  /** "(who cannot stays there; the next one is looked at)": and takes no place. */
  private static void theNextOneIsLookedAt() {
    FloodFerry ferry = withOnePunt(1, 5);
    ferry.addTraveller(0, 1, 4);
    ferry.addTraveller(0, 1, 5);
    ferry.addTraveller(0, 1, 5);
    ferry.pass(2);
    expectPunts("hour 2", ferry, -1, 0, -1);
    ferry.pass(2);
    expectPunts("hour 4", ferry, -1, -1, 0);
    ferry.pass(2);
    expectPunts("hour 6", ferry, -1, -1, -1);
    Check.due("who cannot pay waits", ferry.landing(0, 2), 1);
    ferry.setToll(0, 4);
    ferry.pass(2);
    expectPunts("hour 8, with a smaller toll", ferry, 0, -1, -1);
  }

  /** The same if no one can: the punt goes empty. */
  private static void nobodyCanPay() {
    FloodFerry ferry = withOnePunt(6, 50);
    for (int traveller = 0; traveller < 30; traveller++) {
      ferry.addTraveller(0, 1, 49);
    }
    Check.due("nobody comes", ferry.pass(100), 0);
    Check.due("all wait", ferry.landing(0, 2), 30);
    Check.due("nothing taken", ferry.count(8), 0);
    Check.due("it goes all the same", ferry.punt(0, 8), 100);
  }

  /** "The toll is paid at once." */
  private static void paidAtOnce() {
    FloodFerry ferry = withOnePunt(1, 7);
    ferry.addTraveller(0, 1, 20);
    ferry.pass(1);
    Check.due("before", ferry.traveller(0, 1), 20);
    ferry.pass(1);
    Check.due("paid when one gets in", ferry.traveller(0, 1), 13);
    Check.due("taken when one gets in", ferry.punt(0, 7), 7);
    ferry.setToll(0, 50);
    Check.due("one comes", ferry.pass(1), 1);
    Check.due("paid as it was then", ferry.traveller(0, 1), 13);
    Check.due("taken as it was then", ferry.count(8), 7);
  }

  /** "travellers change from punt to punt, and pay a toll at each": enough for both, or one less. */
  private static void paidOnceAPunt() {
    FloodFerry ferry = withLandings(3);
    ferry.launch(1, 0, 1, 12, 2, 3);
    ferry.launch(2, 1, 1, 12, 2, 4);
    ferry.addTraveller(0, 2, 7);
    ferry.addTraveller(0, 2, 6);
    Check.due("the one comes", ferry.pass(100), 1);
    Check.due("with nothing left", ferry.traveller(0, 1), 0);
    Check.due("the other one waits", ferry.landing(1, 2), 1);
    Check.due("with what is too little", ferry.traveller(1, 1), 3);
    Check.due("for one punt more", ferry.traveller(1, 5), 1);
    Check.due("and will not come", ferry.arrives(1), -1);
    Check.due("tolls", ferry.count(8), 10);
  }

  /** "Punts, by their numbers": who gets out of the first finds the second one, but not the reverse. */
  private static void puntsByTheirNumbers() {
    FloodFerry ferry = withLandings(3);
    ferry.launch(1, 0, 1, 12, 1, 0);
    ferry.launch(1, 2, 1, 12, 1, 0);
    ferry.addTraveller(0, 2, 0);
    ferry.addTraveller(2, 0, 0);
    ferry.pass(2);
    expectPunts("hour 2", ferry, 0, 1);
    ferry.pass(1);
    expectPunts("hour 3", ferry, 1, -1);
    Check.due("the one comes", ferry.pass(1), 1);
    expectPunts("hour 4", ferry, -1, -1);
    ferry.pass(1);
    expectPunts("hour 5", ferry, -1, 0);
    Check.due("the other one comes", ferry.pass(1), 1);
  }

  /** "Travellers who wait there, and take this punt": another one goes empty, even with the first full. */
  private static void onlyThePuntThatOneTakes() {
    FloodFerry ferry = withLandings(2);
    ferry.launch(1, 0, 1, 12, 1, 9);
    ferry.launch(1, 0, 1, 12, 6, 0);
    ferry.addTraveller(0, 1, 9);
    ferry.addTraveller(0, 1, 9);
    ferry.addTraveller(0, 1, 8);
    ferry.pass(2);
    expectPunts("hour 2", ferry, 0, -1, -1);
    ferry.pass(2);
    expectPunts("hour 4", ferry, -1, 0, -1);
    Check.due("nobody takes the second one", ferry.pass(96), 1);
    Check.due("who cannot pay the first waits", ferry.landing(0, 2), 1);
    Check.due("the second one has gone", ferry.punt(1, 8), 100);
  }

  /** "A punt that is not aground ... goes one step": in too little water, and in too much. */
  private static void agroundNoStep() {
    for (int level : new int[] {0, 5, 6, 17, 18, 24}) {
      FloodFerry ferry = new FloodFerry();
      ferry.addLanding(0, 0);
      ferry.addLanding(9, 0);
      ferry.launch(0, 1, 1, 12, 1, 0);
      ferry.setWater(1, level);
      ferry.pass(2);
      Check.due("steps at the level " + level, ferry.punt(0, 8), level < 6 || level > 17 ? 1 : 2);
      ferry.pass(1);
      Check.due("steps later", ferry.punt(0, 8), level < 6 || level > 17 ? 2 : 3);
    }
  }

  /** The same at a landing: one gets out and in all the same, and it is bound for the other one. */
  private static void agroundAtALanding() {
    FloodFerry ferry = withOnePunt(1, 0);
    ferry.addTraveller(0, 1, 0);
    ferry.addTraveller(1, 0, 0);
    ferry.pass(2);
    ferry.setGround(1, 0, 20);
    Check.due("it is aground", ferry.punt(0, 5), 1);
    Check.due("one comes", ferry.pass(1), 1);
    expectPunts("the other one gets in", ferry, -1, 0);
    Check.due("bound for the other landing", ferry.punt(0, 2), 0);
    Check.due("steps", ferry.punt(0, 8), 2);
    Check.due("nobody comes", ferry.pass(50), 0);
    Check.due("steps", ferry.punt(0, 8), 2);
    ferry.setGround(1, 0, 5);
    Check.due("afloat again", ferry.pass(2), 1);
  }

  /** "and has a way there": it waits, though it is afloat. */
  private static void noWayNoStep() {
    FloodFerry ferry = new FloodFerry();
    ferry.addLanding(0, 0);
    ferry.addLanding(0, 5);
    ferry.launch(0, 1, 1, 12, 1, 0);
    for (int x = 0; x < 14; x++) {
      ferry.setGround(x, 3, 8);
    }
    ferry.pass(100);
    Check.due("no step", ferry.punt(0, 8), 0);
    Check.due("but it is not aground", ferry.count(9), 0);
    ferry.setGround(13, 3, 7);
    Check.due("a way at the far end", ferry.punt(0, 6), 31);
    ferry.pass(1);
    Check.due("a step", ferry.punt(0, 0), 1);
  }

  /** "by the water of this hour": the first hour of the table, or the last, and 12 hours later. */
  private static void aWayInOneHourOfTwelve() {
    for (int open : new int[] {0, 11}) {
      FloodFerry ferry = new FloodFerry();
      ferry.addLanding(0, 0);
      ferry.addLanding(9, 0);
      ferry.launch(0, 1, 1, 12, 1, 0);
      ferry.setGround(9, 0, 8);
      ferry.setWater(open, 9);
      for (int hour = 0; hour < 40; hour++) {
        ferry.pass(1);
        int due = (hour - open + 12) / 12;
        Check.due("steps behind the hour " + hour, ferry.punt(0, 8), due);
        Check.due("place behind the hour " + hour, ferry.punt(0, 0), due);
      }
    }
  }

  /** "goes one step": no more in an hour, and also in the hour in which it lands. */
  private static void atMostOneStepAnHour() {
    FloodFerry ferry = new FloodFerry();
    ferry.addLanding(0, 0);
    ferry.addLanding(13, 13);
    ferry.launch(0, 1, 1, 12, 1, 0);
    ferry.pass(100);
    Check.due("steps in 100 hours", ferry.punt(0, 8), 100);
    Check.due("bound for its home", ferry.punt(0, 2), 0);
    Check.due("way left, as 26 + 26 + 26 + 22 steps are gone", ferry.punt(0, 6), 4);
  }

  /** "count ... Throws IndexOutOfBoundsException if what is not 0 to 10". */
  private static void countRefused() {
    FloodFerry ferry = new FloodFerry();
    ferry.setWater(0, 0);
    ferry.setStake(0, 0, 1);
    Check.index("what -1", ferry, () -> ferry.count(-1));
    Check.index("what 11", ferry, () -> ferry.count(11));
    Check.due("what 0", ferry.count(0), 0);
    Check.due("what 10", ferry.count(10), 1);
  }

  /** "2 landings, 3 punts, 4 travellers, 5 those who wait ...": none of all. */
  private static void countsOfNothing() {
    FloodFerry ferry = new FloodFerry();
    ferry.setWater(4, 0);
    ferry.pass(100);
    int[] counts = {100, 0, 0, 0, 0, 0, 0, 0, 0, 0, 0};
    for (int what = 0; what < counts.length; what++) {
      Check.due("count(" + what + ")", ferry.count(what), counts[what]);
    }
  }

  /** "9 punts that are aground now": none, and as many as can be. */
  private static void allAgroundAndNone() {
    FloodFerry ferry = withLandings(8);
    for (int punt = 0; punt < 6; punt++) {
      ferry.launch(punt, punt + 1, 1, 12, 1, 0);
    }
    int[] levels = {6, 17, 5, 18};
    for (int level = 0; level < 4; level++) {
      ferry.setWater(0, levels[level]);
      Check.due("aground at " + levels[level], ferry.count(9), level < 2 ? 0 : 6);
    }
    ferry.setGround(5, 0, 6);
    Check.due("one less deep than the others", ferry.count(9), 5);
  }

  /** "6 those in punts", "7 those who have come", "pass ... how many travellers came": all at once. */
  private static void allInPunts() {
    FloodFerry ferry = aroundOneLanding(0);
    ferry.pass(2);
    expectCounts("hour 2", ferry, 30, 0, 0);
    Check.due("nobody comes in the hour 2", ferry.pass(1), 0);
    expectCounts("hour 3", ferry, 0, 30, 0);
    Check.due("nobody comes in the hour 3", ferry.pass(1), 0);
    Check.due("all come in the hour 4", ferry.pass(1), 30);
    expectCounts("hour 5", ferry, 0, 0, 30);
    Check.due("nobody comes later", ferry.pass(100), 0);
  }

  private static void expectCounts(String what, FloodFerry ferry, int wait, int ride, int come) {
    Check.due(what + ": those who wait", ferry.count(5), wait);
    Check.due(what + ": those in punts", ferry.count(6), ride);
    Check.due(what + ": those who have come", ferry.count(7), come);
  }

  /** Five punts two steps away from the landing 0, and six travellers for each of them there. */
  private static FloodFerry aroundOneLanding(int toll) {
    FloodFerry ferry = new FloodFerry();
    int[][] cells = {{6, 6}, {4, 6}, {8, 6}, {6, 4}, {6, 8}, {5, 5}};
    for (int[] cell : cells) {
      ferry.addLanding(cell[0], cell[1]);
    }
    for (int punt = 0; punt < 5; punt++) {
      ferry.launch(punt + 1, 0, 1, 12, 6, toll);
    }
    for (int traveller = 0; traveller < 30; traveller++) {
      ferry.addTraveller(0, 1 + traveller % 5, 1000);
    }
    return ferry;
  }

  /** "8 tolls in all": the most that all can pay at once. */
  private static void tollsInAll() {
    FloodFerry ferry = aroundOneLanding(50);
    ferry.pass(2);
    Check.due("before", ferry.count(8), 0);
    ferry.pass(1);
    Check.due("30 times 50", ferry.count(8), 1500);
    for (int punt = 0; punt < 5; punt++) {
      Check.due("6 times 50", ferry.punt(punt, 7), 300);
    }
    ferry.pass(100);
    Check.due("and no more", ferry.count(8), 1500);
  }

  /** "7 what it has taken in tolls": all that all can pay, to one punt, six at a time. */
  private static void tollsToOnePunt() {
    FloodFerry ferry = withOnePunt(6, 50);
    for (int traveller = 0; traveller < 30; traveller++) {
      ferry.addTraveller(0, 1, 1000);
    }
    for (int times = 1; times <= 5; times++) {
      ferry.pass(2);
      Check.due("taken by it", ferry.punt(0, 7), times * 300);
      Check.due("taken in all", ferry.count(8), times * 300);
    }
    ferry.pass(2);
    Check.due("and no more", ferry.punt(0, 7), 1500);
    Check.due("all have come", ferry.count(7), 30);
  }
}
