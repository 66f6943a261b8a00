import java.util.List;

/**
 * Every method that throws, with each argument at its bounds and behind them, on both sides, in all
 * combinations, on objects with nothing, with some, and with as many as can be: it throws what the
 * document names first, and then all later answers are as if there had been no such call.
 */
final class BoundsTest {
  private static final String ANSWER = "an answer";
  private static final String INDEX = "IndexOutOfBoundsException";
  private static final String ARGUMENT = "IllegalArgumentException";
  private static final String STATE = "IllegalStateException";
  private static final int REFUSED_IN_A_ROW = 30;

  /** A call with arguments. */
  private interface Method {
    double call(FloodFerry ferry, int[] given);
  }

  /** What the document asks of a call with arguments. */
  private interface Rule {
    String due(int[] given);
  }

  private final Scene scene;
  private final List<Number> undisturbed;
  private FloodFerry ferry;
  private int refused;

  private BoundsTest(Scene scene) {
    this.scene = scene;
    undisturbed = Answers.of(scene.build());
  }

  public static void main(String[] args) {
    for (Scene scene : Scene.ALL) {
      BoundsTest test = new BoundsTest(scene);
      test.groundAndWater();
      test.landingsAndPunts();
      test.travellers();
      test.hours();
      test.ahead();
    }
    Check.end();
  }

  private void groundAndWater() {
    int[] side = around(0, 13);
    each("setGround", new int[][] {side, side, around(0, 20)},
        (f, g) -> f.setGround(g[0], g[1], g[2]),
        g -> !within(g[0], 0, 13) || !within(g[1], 0, 13) ? INDEX
            : !within(g[2], 0, 20) ? ARGUMENT : ANSWER);
    each("setWater", new int[][] {around(0, 11), around(0, 24)},
        (f, g) -> f.setWater(g[0], g[1]),
        g -> !within(g[0], 0, 11) ? INDEX : !within(g[1], 0, 24) ? ARGUMENT : ANSWER);
    each("setStake", new int[][] {side, side, around(0, 9)},
        (f, g) -> f.setStake(g[0], g[1], g[2]),
        g -> !within(g[0], 0, 13) || !within(g[1], 0, 13) ? INDEX
            : !within(g[2], 0, 9) ? ARGUMENT : ANSWER);
    each("cell", new int[][] {side, side, around(0, 5)},
        (f, g) -> f.cell(g[0], g[1], g[2]),
        g -> !within(g[0], 0, 13) || !within(g[1], 0, 13) || !within(g[2], 0, 5) ? INDEX : ANSWER);
  }

  private void landingsAndPunts() {
    int lastPunt = scene.punts - 1;
    each("addLanding", new int[][] {around(0, 13), around(0, 13)},
        (f, g) -> f.addLanding(g[0], g[1]),
        g -> !within(g[0], 0, 13) || !within(g[1], 0, 13) ? INDEX
            : scene.build().cell(g[0], g[1], 4) >= 0 || scene.landings == 8 ? STATE : ANSWER);
    int[] ends = beside(0, scene.landings - 1);
    each("launch",
        new int[][] {ends, ends, beside(1, 4), beside(2, 12), beside(1, 6), beside(0, 50)},
        BoundsTest::launch,
        this::dueOfLaunch);
    for (int far : new int[] {Integer.MIN_VALUE, Integer.MAX_VALUE}) {
      int[] near = {0, 1, far};
      int[] or = {1, far};
      each("launch", new int[][] {near, near, or, {2, far}, or, or},
          BoundsTest::launch,
          this::dueOfLaunch);
    }
    each("setToll", new int[][] {around(0, lastPunt), around(0, 50)},
        (f, g) -> f.setToll(g[0], g[1]),
        g -> !within(g[0], 0, lastPunt) ? INDEX : !within(g[1], 0, 50) ? ARGUMENT : ANSWER);
    each("punt", new int[][] {around(0, lastPunt), around(0, 8)},
        (f, g) -> f.punt(g[0], g[1]),
        g -> !within(g[0], 0, lastPunt) || !within(g[1], 0, 8) ? INDEX : ANSWER);
  }

  private static double launch(FloodFerry ferry, int[] g) {
    return ferry.launch(g[0], g[1], g[2], g[3], g[4], g[5]);
  }

  private String dueOfLaunch(int[] given) {
    int lastLanding = scene.landings - 1;
    if (!within(given[0], 0, lastLanding) || !within(given[1], 0, lastLanding)) {
      return INDEX;
    }
    if (given[0] == given[1] || !within(given[2], 1, 4) || !within(given[3], 2, 12)
        || !within(given[4], 1, 6) || !within(given[5], 0, 50)) {
      return ARGUMENT;
    }
    return scene.punts == 6 ? STATE : ANSWER;
  }

  private void travellers() {
    int lastLanding = scene.landings - 1;
    int lastTraveller = scene.travellers - 1;
    int[] ends = around(0, lastLanding);
    each("addTraveller", new int[][] {ends, ends, around(0, 1000)},
        (f, g) -> f.addTraveller(g[0], g[1], g[2]),
        g -> !within(g[0], 0, lastLanding) || !within(g[1], 0, lastLanding) ? INDEX
            : g[0] == g[1] || !within(g[2], 0, 1000) ? ARGUMENT
            : scene.travellers == 30 ? STATE : ANSWER);
    each("traveller", new int[][] {around(0, lastTraveller), around(0, 6)},
        (f, g) -> f.traveller(g[0], g[1]),
        g -> !within(g[0], 0, lastTraveller) || !within(g[1], 0, 6) ? INDEX : ANSWER);
    each("landing", new int[][] {ends, around(0, 4)},
        (f, g) -> f.landing(g[0], g[1]),
        g -> !within(g[0], 0, lastLanding) || !within(g[1], 0, 4) ? INDEX : ANSWER);
  }

  private void hours() {
    each("pass", new int[][] {around(1, 100)},
        (f, g) -> f.pass(g[0]),
        g -> !within(g[0], 1, 100) ? ARGUMENT : ANSWER);
    each("count", new int[][] {around(0, 10)},
        (f, g) -> f.count(g[0]),
        g -> !within(g[0], 0, 10) ? INDEX : ANSWER);
  }

  private void ahead() {
    int lastPunt = scene.punts - 1;
    int lastLanding = scene.landings - 1;
    int[] punts = around(0, lastPunt);
    int[] ends = around(0, lastLanding);
    each("crossing", new int[][] {punts, around(0, 24)},
        (f, g) -> f.crossing(g[0], g[1]),
        g -> !within(g[0], 0, lastPunt) ? INDEX : !within(g[1], 0, 24) ? ARGUMENT : ANSWER);
    each("opens", new int[][] {punts},
        (f, g) -> f.opens(g[0]),
        g -> !within(g[0], 0, lastPunt) ? INDEX : ANSWER);
    each("chain", new int[][] {ends, ends, around(0, 2)},
        (f, g) -> f.chain(g[0], g[1], g[2]),
        g -> !within(g[0], 0, lastLanding) || !within(g[1], 0, lastLanding)
            || !within(g[2], 0, 2) ? INDEX : ANSWER);
    each("aground", new int[][] {punts, around(1, 100)},
        (f, g) -> f.aground(g[0], g[1]),
        g -> !within(g[0], 0, lastPunt) ? INDEX : !within(g[1], 1, 100) ? ARGUMENT : ANSWER);
    each("arrives", new int[][] {around(0, scene.travellers - 1)},
        (f, g) -> f.arrives(g[0]),
        g -> !within(g[0], 0, scene.travellers - 1) ? INDEX : ANSWER);
  }

  private static boolean within(int number, int least, int most) {
    return number >= least && number <= most;
  }

  private static int[] beside(int least, int most) {
    return new int[] {least - 1, least, most, most + 1};
  }

  private static int[] around(int least, int most) {
    return new int[] {
      Integer.MIN_VALUE, least - 1, least, most, most + 1, Integer.MAX_VALUE
    };
  }

  private void each(String name, int[][] values, Method method, Rule rule) {
    renew();
    int combinations = 1;
    for (int[] ofOne : values) {
      combinations *= ofOne.length;
    }
    for (int combination = 0; combination < combinations; combination++) {
      int[] given = new int[values.length];
      int rest = combination;
      for (int argument = 0; argument < values.length; argument++) {
        given[argument] = values[argument][rest % values[argument].length];
        rest /= values[argument].length;
      }
      one(name, given, method, rule.due(given));
    }
    compareLaterAnswers(name);
  }

  private void one(String name, int[] given, Method method, String due) {
    StringBuilder call = new StringBuilder(scene.name).append(": ").append(name).append("(");
    for (int argument = 0; argument < given.length; argument++) {
      call.append(argument == 0 ? "" : ", ").append(given[argument]);
    }
    String got = ANSWER;
    try {
      // A call that is answered may change something: it gets an object of its own.
      method.call(due.equals(ANSWER) ? scene.build() : ferry, given);
    } catch (RuntimeException e) {
      got = e.getClass().getSimpleName();
    }
    Check.due(call.append(")").toString(), got, due);
    refused += due.equals(ANSWER) ? 0 : 1;
    if (refused == REFUSED_IN_A_ROW) {
      compareLaterAnswers(name);
    }
  }

  private void compareLaterAnswers(String name) {
    String what = scene.name + ": later answers after refused calls of " + name;
    Check.due(what, Answers.of(ferry).toString(), undisturbed.toString());
    renew();
  }

  private void renew() {
    ferry = scene.build();
    refused = 0;
  }
}
