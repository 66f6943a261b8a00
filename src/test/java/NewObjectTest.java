/** Promise 1: a new object. */
final class NewObjectTest {
  public static void main(String[] args) {
    FloodFerry ferry = new FloodFerry();
    int[] counts = {0, 8, 0, 0, 0, 0, 0, 0, 0, 0, 0};
    for (int what = 0; what < counts.length; what++) {
      Check.due("count(" + what + ")", ferry.count(what), counts[what]);
    }
    cells();
    for (int hour = 0; hour < 12; hour++) {
      Check.due("the level of the hour " + hour, ferry.setWater(hour, 8), 8);
    }
    Check.due("mean()", ferry.mean(), 3.0);
    objectsShareNothing();
    Check.end();
  }

  /** An object for each kind of answer, as one is used for 512 calls at most. */
  private static void cells() {
    int[] answers = {5, 3, 0, 0, -1, 0};
    for (int what = 0; what < answers.length; what++) {
      FloodFerry ferry = new FloodFerry();
      for (int x = 0; x < 14; x++) {
        for (int y = 0; y < 14; y++) {
          Check.due("cell(" + x + ", " + y + ", " + what + ")", ferry.cell(x, y, what), answers[what]);
        }
      }
    }
  }

  private static void objectsShareNothing() {
    FloodFerry one = new FloodFerry();
    long before = new FloodFerry().digest();
    one.setGround(0, 0, 9);
    one.setWater(0, 20);
    one.addLanding(0, 0);
    one.pass(3);
    Check.due("digest() of another object", new FloodFerry().digest(), before);
  }
}
