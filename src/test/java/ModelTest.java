/** Long runs of calls, drawn by a fixed series of numbers, against the model. */
final class ModelTest {
  private static final int RUNS = 120;
  private static final int CALLS = 512;

  private long series = 20261119;
  private FloodFerry ferry;
  private Model model;

  public static void main(String[] args) {
    ModelTest test = new ModelTest();
    for (int run = 0; run < RUNS; run++) {
      test.run(run);
    }
    Check.end();
  }

  private int draw(int most) {
    series = series * 6364136223846793005L + 1442695040888963407L;
    return (int) ((series >>> 33) % most);
  }

  private void run(int run) {
    ferry = new FloodFerry();
    model = new Model();
    int calls = 0;
    for (int hour = 0; hour < 12 && run % 3 != 0; hour++, calls++) {
      int level = 6 + draw(5);
      Check.due("setWater", ferry.setWater(hour, level), model.table[hour]);
      model.table[hour] = level;
    }
    for (int left = draw(100); left > 0; left--, calls++) {
      setGround(draw(14), draw(14), 2 + draw(8));
    }
    for (int left = 3 + draw(3); left > 0; left--, calls++) {
      addLanding(draw(14), draw(14));
    }
    for (int left = 2 + draw(4); left > 0; left--, calls++) {
      launch();
    }
    for (; calls < CALLS - 1; calls++) {
      change();
      ask(run + ", " + calls);
    }
    Check.due("run " + run + ": digest()", ferry.digest(), digest());
  }

  private void setGround(int x, int y, int ground) {
    Check.due("setGround", ferry.setGround(x, y, ground), model.ground[x][y]);
    model.ground[x][y] = ground;
  }

  private void addLanding(int x, int y) {
    if (model.landings.size() < 8 && model.landingOn(x, y) < 0) {
      model.landings.add(new int[] {x, y});
      Check.due("addLanding", ferry.addLanding(x, y), model.landings.size() - 1);
    }
  }

  private void launch() {
    int home = draw(model.landings.size());
    int goal = draw(model.landings.size());
    if (home != goal && model.punts.size() < 6) {
      int draught = 1 + draw(3);
      int pole = 4 + draw(9);
      int room = 1 + draw(6);
      int toll = draw(20);
      int number = model.launch(home, goal, draught, pole, room, toll);
      Check.due("launch", ferry.launch(home, goal, draught, pole, room, toll), number);
    }
  }

  private void change() {
    int x = draw(14);
    int y = draw(14);
    switch (draw(30)) {
      case 0:
        setGround(x, y, 2 + draw(8));
        break;
      case 1:
        int hour = draw(12);
        int level = draw(4) == 0 ? draw(25) : 6 + draw(6);
        Check.due("setWater", ferry.setWater(hour, level), model.table[hour]);
        model.table[hour] = level;
        break;
      case 2:
        int length = draw(10);
        Check.due("setStake", ferry.setStake(x, y, length), model.stake[x][y]);
        model.stake[x][y] = length;
        break;
      case 3:
        if (draw(10) == 0) {
          addLanding(x, y);
        }
        break;
      case 4:
        if (draw(10) == 0) {
          launch();
        }
        break;
      case 5:
        if (!model.punts.isEmpty()) {
          int punt = draw(model.punts.size());
          int toll = draw(30);
          Check.due("setToll", ferry.setToll(punt, toll), model.punts.get(punt).toll);
          model.punts.get(punt).toll = toll;
        }
        break;
      case 6:
      case 7:
        addTraveller();
        break;
      case 8:
      case 9:
        pass(draw(5) == 0 ? 1 + draw(60) : 1 + draw(8));
        break;
      default:
    }
  }

  private void addTraveller() {
    int from = draw(model.landings.size());
    int to = draw(model.landings.size());
    if (from != to && model.travellers.size() < 30) {
      int purse = draw(3) == 0 ? draw(15) : draw(200);
      int number = model.addTraveller(from, to, purse);
      Check.due("addTraveller", ferry.addTraveller(from, to, purse), number);
    }
  }

  private void pass(int hours) {
    int came = 0;
    for (int hour = 0; hour < hours; hour++) {
      came += model.hour();
    }
    Check.due("pass(" + hours + ")", ferry.pass(hours), came);
  }

  private void ask(String where) {
    int punt = draw(Math.max(1, model.punts.size()));
    int traveller = draw(Math.max(1, model.travellers.size()));
    int landing = draw(model.landings.size());
    int what = draw(11);
    Check.due(where + ": count", ferry.count(what), model.count(what));
    int x = draw(14);
    int y = draw(14);
    Check.due(where + ": cell", ferry.cell(x, y, what % 6), model.cell(x, y, what % 6));
    Check.due(where + ": landing", ferry.landing(landing, what % 5), model.landing(landing, what % 5));
    int to = draw(model.landings.size());
    Check.due(where + ": chain", ferry.chain(landing, to, what % 3), model.chain(landing, to)[what % 3]);
    Check.due(where + ": mean", ferry.mean(), model.mean());
    if (!model.punts.isEmpty()) {
      Check.due(where + ": punt", ferry.punt(punt, what % 9), model.punt(punt, what % 9));
      int level = draw(25);
      Check.due(where + ": crossing", ferry.crossing(punt, level), model.crossing(punt, level));
      if (what == 0) {
        Check.due(where + ": opens", ferry.opens(punt), model.opens(punt));
        int hours = 1 + draw(100);
        Check.due(where + ": aground", ferry.aground(punt, hours), model.aground(punt, hours));
      }
    }
    if (!model.travellers.isEmpty()) {
      what = what % 7;
      Check.due(where + ": traveller", ferry.traveller(traveller, what), model.traveller(traveller, what));
      if (draw(40) == 0) {
        Check.due(where + ": arrives", ferry.arrives(traveller), model.arrives(traveller));
      }
    }
  }

  private long digest() {
    long sum = 557;
    for (int what = 0; what < 11; what++) {
      sum = sum * 31 + model.count(what);
    }
    for (int level : model.table) {
      sum = sum * 31 + level;
    }
    for (int cell = 0; cell < 196; cell++) {
      sum = sum * 31 + model.ground[cell % 14][cell / 14];
      sum = sum * 31 + model.stake[cell % 14][cell / 14];
    }
    for (int landing = 0; landing < model.landings.size(); landing++) {
      for (int what = 0; what < 5; what++) {
        sum = sum * 31 + model.landing(landing, what);
      }
    }
    for (int punt = 0; punt < model.punts.size(); punt++) {
      for (int what = 0; what < 9; what++) {
        sum = sum * 31 + model.punt(punt, what);
      }
    }
    for (int traveller = 0; traveller < model.travellers.size(); traveller++) {
      for (int what = 0; what < 7; what++) {
        sum = sum * 31 + model.traveller(traveller, what);
      }
    }
    return sum;
  }
}
