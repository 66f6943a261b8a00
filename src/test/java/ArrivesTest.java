/** Promise 19: arrives. */
final class ArrivesTest {
  public static void main(String[] args) {
    ordinary();
    lastHour();
    Check.end();
  }

  private static void ordinary() {
    FloodFerry ferry = new FloodFerry();
    ferry.addLanding(0, 0);
    ferry.addLanding(4, 0);
    ferry.addLanding(9, 9);
    ferry.launch(1, 0, 1, 12, 1, 5);
    ferry.addTraveller(0, 1, 5);
    ferry.addTraveller(0, 1, 4);
    ferry.addTraveller(0, 2, 9);
    ferry.addTraveller(0, 1, 5);
    long before = ferry.digest();
    Check.due("the first one", ferry.arrives(0), 8);
    Check.due("who cannot pay", ferry.arrives(1), -1);
    Check.due("who has no chain", ferry.arrives(2), -1);
    Check.due("for whom there is no room", ferry.arrives(3), 16);
    Check.due("changes nothing", ferry.digest(), before);
    ferry.setToll(0, 4);
    Check.due("with a smaller toll", ferry.arrives(1), 16);
    int[] stops = {0, 1, 5, 6, 8, 9, 12, 13, 17, 20, 25};
    for (int stop = 1; stop < stops.length; stop++) {
      ferry.pass(stops[stop] - stops[stop - 1]);
      Check.due("from the hour " + stops[stop] + " on", ferry.arrives(0), 8);
      Check.due("from the hour " + stops[stop] + " on", ferry.arrives(1), 16);
      Check.due("from the hour " + stops[stop] + " on", ferry.arrives(3), 24);
    }
    Check.due("who has come", ferry.arrives(0), 8);
    Check.due("who has come", ferry.arrives(1), 16);
    Check.due("who has come", ferry.traveller(3, 6), 24);
    Check.due("who has no chain", ferry.arrives(2), -1);
    Check.index("traveller -1", ferry, () -> ferry.arrives(-1));
    Check.index("traveller 4", ferry, () -> ferry.arrives(4));
    FloodFerry empty = new FloodFerry();
    Check.index("no traveller", empty, () -> empty.arrives(0));
  }

  /** There and back with a step in each 12 hours: the last one lands in one hour of 400, or not. */
  private static void lastHour() {
    FloodFerry ferry = new FloodFerry();
    ferry.addLanding(0, 0);
    ferry.addLanding(13, 4);
    ferry.launch(1, 0, 1, 12, 1, 0);
    ferry.addTraveller(0, 1, 0);
    for (int hour = 0; hour < 12; hour++) {
      ferry.setWater(hour, hour == 6 ? 8 : 0);
    }
    Check.due("34 steps, the last in the hour 402", ferry.arrives(0), -1);
    ferry.pass(3);
    Check.due("the hour 403 is not one of the 400 from 3 on", ferry.arrives(0), -1);
    ferry.pass(1);
    Check.due("but one of those from 4 on", ferry.arrives(0), 403);
    ferry.pass(100);
    Check.due("and from 104 on", ferry.arrives(0), 403);
    ferry.pass(100);
    ferry.pass(100);
    ferry.pass(99);
    Check.due("not yet", ferry.traveller(0, 6), -1);
    Check.due("and it is so", ferry.pass(1), 1);
    Check.due("and it is so", ferry.traveller(0, 6), 403);
  }
}
