/** Promises 20 and 21: mean and digest. */
final class MeanAndDigestTest {
  private static final int LAST_HOUR = 28;
  private static final int[] LEVELS = {8, 9, 10, 11, 12, 8, 8, 8, 8, 6, 8, 7};

  public static void main(String[] args) {
    means();
    digests();
    Check.end();
  }

  private static void means() {
    FloodFerry ferry = new FloodFerry();
    Check.due("mean()", ferry.mean(), 3.0);
    ferry.setGround(13, 13, 20);
    Check.due("dry cells have the depth 0", ferry.mean(), 585 / 196.0);
    ferry.setGround(0, 0, 4);
    Check.due("mean()", ferry.mean(), 586 / 196.0);
    ferry.setWater(1, 24);
    ferry.setWater(2, 0);
    ferry.pass(1);
    Check.due("at the highest water", ferry.mean(), (194 * 19 + 4 + 20) / 196.0);
    ferry.pass(1);
    Check.due("without water", ferry.mean(), 0.0);
  }

  private static void digests() {
    Check.due("digest() of a new object", new FloodFerry().digest(), newDigest());
    for (int hour = 0; hour <= LAST_HOUR; hour++) {
      Check.due("digest() at the hour " + hour, at(hour).digest(), digestByTheAnswers(hour));
    }
  }

  /** The same calls for each object that is made for the same hour. */
  private static FloodFerry at(int lastHour) {
    FloodFerry ferry = new FloodFerry();
    ferry.addLanding(2, 3);
    ferry.addLanding(7, 8);
    ferry.addLanding(12, 1);
    ferry.launch(0, 1, 2, 9, 1, 17);
    ferry.launch(2, 1, 3, 12, 4, 50);
    ferry.addTraveller(1, 0, 1000);
    ferry.addTraveller(2, 0, 333);
    ferry.addTraveller(0, 2, 16);
    for (int hour = 0; hour < 12; hour++) {
      ferry.setWater(hour, LEVELS[hour]);
    }
    for (int hour = 0; hour < lastHour; hour++) {
      ferry.setGround(hour % 14, hour % 13, hour % 7);
      ferry.setStake(hour % 13, hour % 14, hour % 10);
      ferry.pass(1);
    }
    return ferry;
  }

  private static long newDigest() {
    long sum = 557;
    int[] counts = {0, 8, 0, 0, 0, 0, 0, 0, 0, 0, 0};
    for (int number : counts) {
      sum = sum * 31 + number;
    }
    for (int hour = 0; hour < 12; hour++) {
      sum = sum * 31 + 8;
    }
    for (int cell = 0; cell < 196; cell++) {
      sum = (sum * 31 + 5) * 31;
    }
    return sum;
  }

  /** By two objects, as one is used for 512 calls at most. */
  private static long digestByTheAnswers(int hour) {
    FloodFerry ferry = at(hour);
    long sum = 557;
    for (int what = 0; what <= 10; what++) {
      sum = sum * 31 + ferry.count(what);
    }
    for (int level : LEVELS) {
      sum = sum * 31 + level;
    }
    for (int cell = 0; cell < 196; cell++) {
      sum = sum * 31 + ferry.cell(cell % 14, cell / 14, 0);
      sum = sum * 31 + ferry.cell(cell % 14, cell / 14, 2);
    }
    return digestOfTheRest(at(hour), sum);
  }

  private static long digestOfTheRest(FloodFerry ferry, long start) {
    long sum = start;
    for (int landing = 0; landing < ferry.count(2); landing++) {
      for (int what = 0; what <= 4; what++) {
        sum = sum * 31 + ferry.landing(landing, what);
      }
    }
    for (int punt = 0; punt < ferry.count(3); punt++) {
      for (int what = 0; what <= 8; what++) {
        sum = sum * 31 + ferry.punt(punt, what);
      }
    }
    for (int traveller = 0; traveller < ferry.count(4); traveller++) {
      for (int what = 0; what <= 6; what++) {
        sum = sum * 31 + ferry.traveller(traveller, what);
      }
    }
    return sum;
  }
}
