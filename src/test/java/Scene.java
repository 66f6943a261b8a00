/** Objects with nothing there yet, with some of all, and with as many as there can be. */
final class Scene {
  static final Scene NOTHING = new Scene("nothing there yet", 0, 0, 0);
  static final Scene SOME = new Scene("some of all", 3, 2, 4);
  static final Scene MOST = new Scene("as many as can be", 8, 6, 30);
  static final Scene[] ALL = {NOTHING, SOME, MOST};

  /** The landings' cells: x, then y. */
  private static final int[][] CELLS = {
    {1, 1}, {5, 1}, {5, 4}, {0, 0}, {13, 0}, {0, 13}, {13, 13}, {8, 8}
  };

  /** Home, goal, draught, pole, room and toll. */
  private static final int[][] PUNTS = {
    {0, 1, 1, 6, 2, 3}, {1, 2, 2, 5, 1, 4}, {2, 7, 4, 12, 6, 50},
    {3, 0, 1, 12, 3, 0}, {7, 4, 3, 9, 1, 7}, {2, 0, 1, 2, 1, 20}
  };

  final String name;
  final int landings;
  final int punts;
  final int travellers;

  private Scene(String name, int landings, int punts, int travellers) {
    this.name = name;
    this.landings = landings;
    this.punts = punts;
    this.travellers = travellers;
  }

  FloodFerry build() {
    FloodFerry ferry = new FloodFerry();
    if (landings > 0) {
      flood(ferry);
    }
    for (int landing = 0; landing < landings; landing++) {
      ferry.addLanding(CELLS[landing][0], CELLS[landing][1]);
    }
    for (int punt = 0; punt < punts; punt++) {
      int[] of = PUNTS[punt];
      ferry.launch(of[0], of[1], of[2], of[3], of[4], of[5]);
    }
    for (int traveller = 0; traveller < travellers; traveller++) {
      int from = traveller % landings;
      int to = (from + 1 + traveller / landings % (landings - 1)) % landings;
      ferry.addTraveller(from, to, traveller % 5 * 30);
    }
    if (punts > 0) {
      ferry.pass(13);
    }
    return ferry;
  }

  private static void flood(FloodFerry ferry) {
    ferry.setWater(3, 9);
    ferry.setWater(4, 7);
    ferry.setWater(11, 10);
    ferry.setGround(3, 1, 7);
    ferry.setGround(5, 2, 8);
    ferry.setGround(7, 7, 0);
    ferry.setStake(2, 2, 3);
    ferry.setStake(3, 1, 9);
  }
}
