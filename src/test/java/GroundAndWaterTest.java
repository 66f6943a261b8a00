/** Promises 2 to 5: setGround, setWater, setStake and cell. */
final class GroundAndWaterTest {
  public static void main(String[] args) {
    ground();
    water();
    stakes();
    cells();
    Check.end();
  }

  private static void ground() {
    FloodFerry ferry = new FloodFerry();
    Check.due("ground before", ferry.setGround(13, 0, 20), 5);
    Check.due("ground before", ferry.setGround(13, 0, 0), 20);
    Check.due("ground before", ferry.setGround(0, 13, 7), 5);
    Check.due("ground", ferry.cell(13, 0, 0), 0);
    Check.due("ground", ferry.cell(0, 13, 0), 7);
    Check.due("ground of the cell beside", ferry.cell(12, 0, 0), 5);
    Check.due("ground of the next row", ferry.cell(0, 1, 0), 5);
    Check.index("x -1", ferry, () -> ferry.setGround(-1, 0, 1));
    Check.index("x 14", ferry, () -> ferry.setGround(14, 0, 1));
    Check.index("y -1", ferry, () -> ferry.setGround(0, -1, 1));
    Check.index("y 14", ferry, () -> ferry.setGround(0, 14, 1));
    Check.index("x least", ferry, () -> ferry.setGround(Integer.MIN_VALUE, 0, 1));
    Check.index("y most", ferry, () -> ferry.setGround(0, Integer.MAX_VALUE, 1));
    Check.argument("ground -1", ferry, () -> ferry.setGround(0, 0, -1));
    Check.argument("ground 21", ferry, () -> ferry.setGround(0, 0, 21));
    Check.index("the cell comes first", ferry, () -> ferry.setGround(14, 0, 21));
  }

  private static void water() {
    FloodFerry ferry = new FloodFerry();
    Check.due("level before", ferry.setWater(0, 0), 8);
    Check.due("level before", ferry.setWater(0, 24), 0);
    Check.due("level before", ferry.setWater(11, 3), 8);
    Check.due("level now", ferry.count(1), 24);
    ferry.pass(11);
    Check.due("level at the hour 11", ferry.count(1), 3);
    ferry.pass(1);
    Check.due("level at the hour 12", ferry.count(1), 24);
    Check.index("hour -1", ferry, () -> ferry.setWater(-1, 0));
    Check.index("hour 12", ferry, () -> ferry.setWater(12, 0));
    Check.argument("level -1", ferry, () -> ferry.setWater(0, -1));
    Check.argument("level 25", ferry, () -> ferry.setWater(0, 25));
    Check.index("the hour comes first", ferry, () -> ferry.setWater(12, 25));
  }

  private static void stakes() {
    FloodFerry ferry = new FloodFerry();
    Check.due("length before", ferry.setStake(2, 3, 9), 0);
    Check.due("length before", ferry.setStake(2, 3, 1), 9);
    Check.due("length", ferry.cell(2, 3, 2), 1);
    Check.due("length elsewhere", ferry.cell(3, 2, 2), 0);
    Check.due("length before", ferry.setStake(2, 3, 0), 1);
    Check.due("length", ferry.cell(2, 3, 2), 0);
    Check.index("x 14", ferry, () -> ferry.setStake(14, 0, 1));
    Check.index("x -1", ferry, () -> ferry.setStake(-1, 0, 1));
    Check.index("y 14", ferry, () -> ferry.setStake(0, 14, 1));
    Check.index("y -1", ferry, () -> ferry.setStake(0, -1, 1));
    Check.argument("length -1", ferry, () -> ferry.setStake(0, 0, -1));
    Check.argument("length 10", ferry, () -> ferry.setStake(0, 0, 10));
    Check.index("the cell comes first", ferry, () -> ferry.setStake(0, 14, 10));
  }

  private static void cells() {
    FloodFerry ferry = new FloodFerry();
    ferry.setStake(4, 4, 3);
    Check.due("a stake as long as it is deep is not to be seen", ferry.cell(4, 4, 3), 0);
    ferry.setStake(4, 4, 4);
    Check.due("a longer one is", ferry.cell(4, 4, 3), 1);
    ferry.setGround(4, 4, 9);
    Check.due("the depth is at least 0", ferry.cell(4, 4, 1), 0);
    Check.due("a stake on dry ground is to be seen", ferry.cell(4, 4, 3), 1);
    Check.due("no stake on dry ground is none to be seen",
        ferry.setStake(4, 4, 0) * 10 + ferry.cell(4, 4, 3), 40);
    ferry.setWater(1, 24);
    ferry.pass(1);
    Check.due("the depth by the water of the hour", ferry.cell(4, 4, 1), 15);
    ferry.addLanding(1, 0);
    ferry.addLanding(0, 1);
    ferry.launch(1, 0, 1, 2, 1, 0);
    ferry.launch(1, 0, 1, 2, 1, 0);
    Check.due("landing 0", ferry.cell(1, 0, 4), 0);
    Check.due("landing 1", ferry.cell(0, 1, 4), 1);
    Check.due("no landing", ferry.cell(1, 1, 4), -1);
    Check.due("punts", ferry.cell(0, 1, 5), 2);
    Check.due("no punts", ferry.cell(1, 0, 5), 0);
    Check.index("what -1", ferry, () -> ferry.cell(0, 0, -1));
    Check.index("what 6", ferry, () -> ferry.cell(0, 0, 6));
    Check.index("x 14", ferry, () -> ferry.cell(14, 0, 0));
    Check.index("y 14", ferry, () -> ferry.cell(0, 14, 0));
    Check.index("x -1", ferry, () -> ferry.cell(-1, 1, 0));
    Check.index("y -1", ferry, () -> ferry.cell(13, -1, 0));
  }
}
