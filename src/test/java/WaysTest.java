/** Promises 15, 16 and 18: crossing, opens and aground. */
final class WaysTest {
  public static void main(String[] args) {
    crossings();
    ends();
    openings();
    newGround();
    agrounds();
    agroundOnItsWay();
    Check.end();
  }

  private static void crossings() {
    FloodFerry ferry = new FloodFerry();
    ferry.addLanding(0, 0);
    ferry.addLanding(4, 0);
    ferry.launch(0, 1, 2, 6, 1, 0);
    for (int level = 0; level <= 24; level++) {
      Check.due("crossing at " + level, ferry.crossing(0, level), level >= 7 && level <= 11 ? 4 : -1);
    }
    wall(ferry, 2, 9, 12);
    Check.due("round the end of a wall", ferry.crossing(0, 10), 4 + 2 * 13);
    Check.due("over it", ferry.crossing(0, 11), 4);
    ferry.setGround(2, 13, 20);
    Check.due("a wall without an end", ferry.crossing(0, 10), -1);
    Check.due("the place of the punt is nothing to it", ferry.pass(2) + ferry.crossing(0, 11), 4);
    Check.index("punt -1", ferry, () -> ferry.crossing(-1, 8));
    Check.index("punt 1", ferry, () -> ferry.crossing(1, 8));
    Check.argument("level -1", ferry, () -> ferry.crossing(0, -1));
    Check.argument("level 25", ferry, () -> ferry.crossing(0, 25));
    Check.index("the punt comes first", ferry, () -> ferry.crossing(1, 25));
  }

  private static void wall(FloodFerry ferry, int x, int ground, int lastRow) {
    for (int y = 0; y <= lastRow; y++) {
      ferry.setGround(x, y, ground);
    }
  }

  /** It has to float at both ends. */
  private static void ends() {
    FloodFerry ferry = new FloodFerry();
    ferry.addLanding(3, 3);
    ferry.addLanding(4, 3);
    ferry.launch(0, 1, 1, 4, 1, 0);
    ferry.setGround(3, 3, 7);
    ferry.setGround(4, 3, 5);
    int[] answers = {-1, 1, 1, -1};
    for (int level = 7; level <= 10; level++) {
      Check.due("a high home, " + level, ferry.crossing(0, level), answers[level - 7]);
    }
    ferry.setGround(3, 3, 5);
    ferry.setGround(4, 3, 7);
    for (int level = 7; level <= 10; level++) {
      Check.due("a high goal, " + level, ferry.crossing(0, level), answers[level - 7]);
    }
  }

  private static void openings() {
    FloodFerry ferry = new FloodFerry();
    ferry.addLanding(13, 13);
    ferry.addLanding(0, 13);
    ferry.launch(0, 1, 4, 12, 1, 0);
    ferry.launch(0, 1, 4, 3, 1, 0);
    Check.due("the least level", ferry.opens(0), 9);
    Check.due("none for who is never afloat", ferry.opens(1), -1);
    wall(ferry, 7, 20, 13);
    Check.due("too deep before the wall is under", ferry.opens(0), -1);
    for (int y = 0; y < 14; y++) {
      for (int x = 0; x < 14; x++) {
        ferry.setGround(x, y, 20);
      }
    }
    Check.due("with the highest water", ferry.opens(0), 24);
    ferry.setGround(4, 4, 0);
    for (int y = 0; y < 14; y++) {
      for (int x = 0; x < 14; x++) {
        ferry.setGround(x, y, 0);
      }
    }
    Check.due("over the lowest ground", ferry.opens(0), 4);
    Check.index("punt -1", ferry, () -> ferry.opens(-1));
    Check.index("punt 2", ferry, () -> ferry.opens(2));
  }

  private static void newGround() {
    FloodFerry ferry = new FloodFerry();
    ferry.addLanding(0, 0);
    ferry.addLanding(2, 0);
    ferry.launch(0, 1, 1, 12, 1, 0);
    Check.due("straight on", ferry.crossing(0, 8), 2);
    ferry.setGround(1, 0, 8);
    Check.due("round it", ferry.crossing(0, 8), 4);
    ferry.setGround(1, 0, 7);
    Check.due("straight on again", ferry.crossing(0, 8), 2);
  }

  /** From each hour on it is what the hours themselves bring. */
  private static void agroundOnItsWay() {
    FloodFerry ferry = new FloodFerry();
    ferry.addLanding(0, 0);
    ferry.addLanding(5, 0);
    ferry.launch(1, 0, 1, 12, 1, 0);
    ferry.setGround(2, 0, 7);
    ferry.setWater(11, 7);
    Check.due("on the cell 4 at the hour 11, on 2 at 23", ferry.aground(0, 100), 23);
    for (int hour = 1; hour <= 23; hour++) {
      ferry.pass(1);
      Check.due("from the hour " + hour + " on", ferry.aground(0, 100), 23 - hour);
    }
  }

  private static void agrounds() {
    FloodFerry ferry = new FloodFerry();
    ferry.addLanding(0, 0);
    ferry.addLanding(5, 0);
    ferry.launch(0, 1, 1, 3, 1, 0);
    Check.due("never", ferry.aground(0, 100), -1);
    ferry.setGround(3, 0, 6);
    ferry.setWater(4, 9);
    long before = ferry.digest();
    Check.due("too deep in the hour 4", ferry.aground(0, 4), 4);
    Check.due("not in less", ferry.aground(0, 3), -1);
    Check.due("changes nothing", ferry.digest(), before);
    ferry.setWater(4, 6);
    ferry.setGround(4, 0, 1);
    ferry.setGround(3, 0, 3);
    Check.due("round what is too deep", ferry.aground(0, 3), -1);
    ferry.setWater(4, 8);
    ferry.setWater(0, 5);
    Check.due("now", ferry.aground(0, 1), 0);
    ferry.setWater(0, 8);
    ferry.setWater(1, 5);
    Check.due("the next hour", ferry.aground(0, 1), 1);
    ferry.setWater(1, 8);
    ferry.setWater(0, 5);
    ferry.pass(1);
    Check.due("at the hour 12 again", ferry.aground(0, 11), 11);
    Check.due("not before", ferry.aground(0, 10), -1);
    Check.index("punt -1", ferry, () -> ferry.aground(-1, 1));
    Check.index("punt 1", ferry, () -> ferry.aground(1, 1));
    Check.argument("hours 0", ferry, () -> ferry.aground(0, 0));
    Check.argument("hours 101", ferry, () -> ferry.aground(0, 101));
    Check.index("the punt comes first", ferry, () -> ferry.aground(1, 0));
  }
}
