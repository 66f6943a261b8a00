import java.util.ArrayList;
import java.util.List;

/** What an object answers to later calls: a change of its state would show in one of them. */
final class Answers {
  private static final int LATER_HOURS = 6;

  private Answers() {}

  static List<Number> of(FloodFerry ferry) {
    List<Number> answers = new ArrayList<>();
    answers.add(ferry.digest());
    answers.add(ferry.mean());
    int landings = ferry.count(2);
    for (int from = 0; from < landings; from++) {
      for (int to = 0; to < landings; to++) {
        for (int what = 0; what < 3; what++) {
          answers.add(ferry.chain(from, to, what));
        }
      }
    }
    ofPunts(ferry, answers);
    int travellers = ferry.count(4);
    for (int traveller = 0; traveller < travellers; traveller++) {
      answers.add(ferry.arrives(traveller));
    }
    for (int hour = 0; hour < LATER_HOURS; hour++) {
      answers.add(ferry.pass(1 + hour));
      answers.add(ferry.digest());
    }
    return answers;
  }

  private static void ofPunts(FloodFerry ferry, List<Number> answers) {
    int punts = ferry.count(3);
    for (int punt = 0; punt < punts; punt++) {
      answers.add(ferry.opens(punt));
      answers.add(ferry.aground(punt, 100));
      for (int level = 0; level <= 24; level++) {
        answers.add(ferry.crossing(punt, level));
      }
    }
  }
}
