/**
 * An object and its model: each call goes to both, with whatever arguments, and both have to answer,
 * or to throw, the same.
 */
final class Pair {
  private static final int MOST_CALLS = 512;

  private final FloodFerry ferry = new FloodFerry();
  private final Model model = new Model();
  private final String name;
  private int calls;

  Pair(String name) {
    this.name = name;
  }

  /** A call of one of both. */
  private interface Call {
    Number answer();
  }

  private void compare(String call, Call ofFerry, Call ofModel) {
    calls++;
    Check.due(name + ", call " + calls + ": " + call, outcome(ofFerry), outcome(ofModel));
  }

  private static String outcome(Call call) {
    try {
      return call.answer().toString();
    } catch (RuntimeException e) {
      return e.getClass().getSimpleName();
    }
  }

  private static String text(String method, int... given) {
    StringBuilder text = new StringBuilder(method).append("(");
    for (int argument = 0; argument < given.length; argument++) {
      text.append(argument == 0 ? "" : ", ").append(given[argument]);
    }
    return text.append(")").toString();
  }

  int callsLeft() {
    return MOST_CALLS - calls;
  }

  int landings() {
    return model.count(2);
  }

  int punts() {
    return model.count(3);
  }

  int travellers() {
    return model.count(4);
  }

  void setGround(int x, int y, int ground) {
    compare(text("setGround", x, y, ground),
        () -> ferry.setGround(x, y, ground), () -> model.setGround(x, y, ground));
  }

  void setWater(int hour, int level) {
    compare(text("setWater", hour, level),
        () -> ferry.setWater(hour, level), () -> model.setWater(hour, level));
  }

  void setStake(int x, int y, int length) {
    compare(text("setStake", x, y, length),
        () -> ferry.setStake(x, y, length), () -> model.setStake(x, y, length));
  }

  void cell(int x, int y, int what) {
    compare(text("cell", x, y, what), () -> ferry.cell(x, y, what), () -> model.cell(x, y, what));
  }

  void addLanding(int x, int y) {
    compare(text("addLanding", x, y), () -> ferry.addLanding(x, y), () -> model.addLanding(x, y));
  }

  void launch(int home, int goal, int draught, int pole, int room, int toll) {
    compare(text("launch", home, goal, draught, pole, room, toll),
        () -> ferry.launch(home, goal, draught, pole, room, toll),
        () -> model.launch(home, goal, draught, pole, room, toll));
  }

  void setToll(int punt, int toll) {
    compare(text("setToll", punt, toll),
        () -> ferry.setToll(punt, toll), () -> model.setToll(punt, toll));
  }

  void punt(int punt, int what) {
    compare(text("punt", punt, what), () -> ferry.punt(punt, what), () -> model.punt(punt, what));
  }

  void addTraveller(int from, int to, int purse) {
    compare(text("addTraveller", from, to, purse),
        () -> ferry.addTraveller(from, to, purse), () -> model.addTraveller(from, to, purse));
  }

  void traveller(int traveller, int what) {
    compare(text("traveller", traveller, what),
        () -> ferry.traveller(traveller, what), () -> model.traveller(traveller, what));
  }

  void landing(int landing, int what) {
    compare(text("landing", landing, what),
        () -> ferry.landing(landing, what), () -> model.landing(landing, what));
  }

  void pass(int hours) {
    compare(text("pass", hours), () -> ferry.pass(hours), () -> model.pass(hours));
  }

  void count(int what) {
    compare(text("count", what), () -> ferry.count(what), () -> model.count(what));
  }

  void crossing(int punt, int level) {
    compare(text("crossing", punt, level),
        () -> ferry.crossing(punt, level), () -> model.crossing(punt, level));
  }

  void opens(int punt) {
    compare(text("opens", punt), () -> ferry.opens(punt), () -> model.opens(punt));
  }

  void chain(int from, int to, int what) {
    compare(text("chain", from, to, what),
        () -> ferry.chain(from, to, what), () -> model.chain(from, to, what));
  }

  void aground(int punt, int hours) {
    compare(text("aground", punt, hours),
        () -> ferry.aground(punt, hours), () -> model.aground(punt, hours));
  }

  void arrives(int traveller) {
    compare(text("arrives", traveller),
        () -> ferry.arrives(traveller), () -> model.arrives(traveller));
  }

  void mean() {
    compare(text("mean"), () -> ferry.mean(), () -> model.mean());
  }

  void digest() {
    compare(text("digest"), () -> ferry.digest(), () -> model.digest());
  }
}
