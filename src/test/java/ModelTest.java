/**
 * Runs of 512 calls, drawn by a fixed series of numbers, against the model. Some of the calls are
 * refused; that they change nothing shows in the calls that follow.
 */
final class ModelTest {
  private static final int RUNS = 300;
  private static final int CALLS = 512;

  private long series = 20261119;
  private FloodFerry ferry;
  private Model model;
  private int calls;
  private String where;

  public static void main(String[] args) {
    ModelTest test = new ModelTest();
    for (int run = 0; run < RUNS; run++) {
      test.run(run);
    }
    Check.end();
  }

  private int draw(int most) {
    series = series * 6364136223846793005L + 1442695040888963407L;
    return (int) ((series >>> 33) % most);
  }

  /** Each call goes by this, so that none is one too many. */
  private FloodFerry call() {
    calls++;
    return ferry;
  }

  private void due(String what, long got, long want) {
    Check.due(where + ", call " + calls + ": " + what, got, want);
  }

  private void run(int run) {
    ferry = new FloodFerry();
    model = new Model();
    calls = 0;
    where = "run " + run;
    for (int hour = 0; hour < 12 && run % 3 != 0; hour++) {
      setWater(hour, 6 + draw(5));
    }
    for (int left = draw(run % 2 == 0 ? 100 : 30); left > 0; left--) {
      setGround(draw(14), draw(14), 2 + draw(8));
    }
    for (int left = 3 + draw(3); left > 0; left--) {
      addLanding(draw(14), draw(14));
    }
    for (int left = 2 + draw(4); left > 0; left--) {
      launch();
    }
    while (calls < CALLS - 1) {
      step();
    }
    due("digest()", call().digest(), digest());
  }

  private void step() {
    int kind = draw(20);
    if (kind == 0) {
      refuse();
    } else if (kind < 8) {
      change();
    } else if (kind < 19) {
      ask();
    } else {
      lookAhead();
    }
  }

  // ---- calls that change something

  private void change() {
    switch (draw(12)) {
      case 0:
        setGround(draw(14), draw(14), 2 + draw(8));
        break;
      case 1:
        setWater(draw(12), draw(4) == 0 ? draw(25) : 6 + draw(6));
        break;
      case 2:
        int x = draw(14);
        int y = draw(14);
        int length = draw(10);
        due("setStake", call().setStake(x, y, length), model.stake[x][y]);
        model.stake[x][y] = length;
        break;
      case 3:
        addOrLaunch();
        break;
      case 4:
        setToll();
        break;
      case 5:
      case 6:
        addTraveller();
        break;
      default:
        pass(draw(5) == 0 ? 1 + draw(60) : 1 + draw(8));
    }
  }

  private void addOrLaunch() {
    int chance = draw(20);
    if (chance == 0) {
      addLanding(draw(14), draw(14));
    } else if (chance == 1) {
      launch();
    }
  }

  private void setGround(int x, int y, int ground) {
    due("setGround", call().setGround(x, y, ground), model.ground[x][y]);
    model.ground[x][y] = ground;
  }

  private void setWater(int hour, int level) {
    due("setWater", call().setWater(hour, level), model.table[hour]);
    model.table[hour] = level;
  }

  private void addLanding(int x, int y) {
    if (model.landings.size() < 8 && model.landingOn(x, y) < 0) {
      model.landings.add(new int[] {x, y});
      due("addLanding", call().addLanding(x, y), model.landings.size() - 1);
    }
  }

  private void launch() {
    int home = draw(model.landings.size());
    int goal = draw(model.landings.size());
    if (home != goal && model.punts.size() < 6) {
      int draught = 1 + draw(3);
      int pole = 4 + draw(9);
      int room = 1 + draw(6);
      int toll = draw(20);
      int number = model.launch(home, goal, draught, pole, room, toll);
      due("launch", call().launch(home, goal, draught, pole, room, toll), number);
    }
  }

  private void setToll() {
    if (!model.punts.isEmpty()) {
      int punt = draw(model.punts.size());
      int toll = draw(30);
      due("setToll", call().setToll(punt, toll), model.punts.get(punt).toll);
      model.punts.get(punt).toll = toll;
    }
  }

  private void addTraveller() {
    int from = draw(model.landings.size());
    int to = draw(model.landings.size());
    if (from != to && model.travellers.size() < 30) {
      int purse = draw(3) == 0 ? draw(15) : draw(200);
      int number = model.addTraveller(from, to, purse);
      due("addTraveller", call().addTraveller(from, to, purse), number);
    }
  }

  private void pass(int hours) {
    int came = 0;
    for (int hour = 0; hour < hours; hour++) {
      came += model.hour();
    }
    due("pass(" + hours + ")", call().pass(hours), came);
  }

  // ---- calls that tell something

  private void ask() {
    int what = draw(11);
    switch (draw(7)) {
      case 0:
        due("count", call().count(what), model.count(what));
        break;
      case 1:
        int x = draw(14);
        int y = draw(14);
        due("cell", call().cell(x, y, what % 6), model.cell(x, y, what % 6));
        break;
      case 2:
        int landing = draw(model.landings.size());
        due("landing", call().landing(landing, what % 5), model.landing(landing, what % 5));
        break;
      case 3:
        int from = draw(model.landings.size());
        int to = draw(model.landings.size());
        due("chain", call().chain(from, to, what % 3), model.chain(from, to)[what % 3]);
        break;
      case 4:
        Check.due(where + ", call " + calls + ": mean", call().mean(), model.mean());
        break;
      case 5:
        askOfPunt(what % 9);
        break;
      default:
        askOfTraveller(what % 7);
    }
  }

  private void askOfPunt(int what) {
    if (!model.punts.isEmpty()) {
      int punt = draw(model.punts.size());
      due("punt(" + punt + ", " + what + ")", call().punt(punt, what), model.punt(punt, what));
    }
  }

  private void askOfTraveller(int what) {
    if (!model.travellers.isEmpty()) {
      int traveller = draw(model.travellers.size());
      String asked = "traveller(" + traveller + ", " + what + ")";
      due(asked, call().traveller(traveller, what), model.traveller(traveller, what));
    }
  }

  private void lookAhead() {
    if (model.punts.isEmpty()) {
      return;
    }
    int punt = draw(model.punts.size());
    switch (draw(5)) {
      case 0:
        due("opens", call().opens(punt), model.opens(punt));
        break;
      case 1:
        int hours = 1 + draw(100);
        due("aground(.., " + hours + ")", call().aground(punt, hours), model.aground(punt, hours));
        break;
      case 2:
        if (!model.travellers.isEmpty()) {
          int traveller = draw(model.travellers.size());
          due("arrives", call().arrives(traveller), model.arrives(traveller));
        }
        break;
      default:
        int level = draw(25);
        due("crossing", call().crossing(punt, level), model.crossing(punt, level));
    }
  }

  // ---- calls that are refused

  private void refuse() {
    int kind = draw(8);
    String got = "an answer";
    try {
      refused(kind);
    } catch (IndexOutOfBoundsException e) {
      got = "index";
    } catch (IllegalArgumentException e) {
      got = "argument";
    } catch (IllegalStateException e) {
      got = "state";
    }
    String want = kind < 4 ? "index" : kind < 7 ? "argument" : "state";
    Check.due(where + ", call " + calls + ": the refused call " + kind, got, want);
  }

  private void refused(int kind) {
    int[] first = model.landings.get(0);
    switch (kind) {
      case 0:
        call().setGround(draw(14), 14, draw(21));
        break;
      case 1:
        call().launch(0, model.landings.size(), 1, 12, 1, 0);
        break;
      case 2:
        call().addTraveller(model.landings.size(), 0, 0);
        break;
      case 3:
        call().setToll(model.punts.size(), 0);
        break;
      case 4:
        call().setWater(draw(12), 25);
        break;
      case 5:
        call().launch(0, 1, 1, 12, 7, 0);
        break;
      case 6:
        call().pass(101);
        break;
      default:
        call().addLanding(first[0], first[1]);
    }
  }

  private long digest() {
    long sum = 557;
    for (int what = 0; what < 11; what++) {
      sum = sum * 31 + model.count(what);
    }
    for (int level : model.table) {
      sum = sum * 31 + level;
    }
    for (int cell = 0; cell < 196; cell++) {
      sum = sum * 31 + model.ground[cell % 14][cell / 14];
      sum = sum * 31 + model.stake[cell % 14][cell / 14];
    }
    for (int landing = 0; landing < model.landings.size(); landing++) {
      for (int what = 0; what < 5; what++) {
        sum = sum * 31 + model.landing(landing, what);
      }
    }
    for (int punt = 0; punt < model.punts.size(); punt++) {
      for (int what = 0; what < 9; what++) {
        sum = sum * 31 + model.punt(punt, what);
      }
    }
    for (int traveller = 0; traveller < model.travellers.size(); traveller++) {
      for (int what = 0; what < 7; what++) {
        sum = sum * 31 + model.traveller(traveller, what);
      }
    }
    return sum;
  }
}
