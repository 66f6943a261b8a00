/**
 * Runs of 512 calls, drawn by a fixed series of numbers, against the model. Some of the arguments
 * are at their bounds or behind them; that a refused call changes nothing shows in the calls that
 * follow, above all in digest().
 */
final class ModelTest {
  /** What kind of run it is: what is there at first, and how much may happen at once. */
  private enum Kind {
    /** Some of all on the whole plain: long ways, much ground and water that changes. */
    WIDE(100, 14, 3, 2, 0, 9, 60),
    /** Much on a small part of it: many who change from punt to punt. */
    CROWDED(120, 6, 6, 5, 12, 3, 12),
    /** Two landings and all for them: much paid to few punts. */
    PAIRED(40, 3, 2, 1, 20, 9, 12),
    /** As many hours as the calls can bring. */
    LONG(8, 9, 6, 4, 8, 100, 100);

    final int runs;
    final int side;
    final int landings;
    final int punts;
    final int travellers;
    final int hours;
    final int hoursAtMost;

    Kind(int runs, int side, int landings, int punts, int travellers, int hours, int hoursAtMost) {
      this.runs = runs;
      this.side = side;
      this.landings = landings;
      this.punts = punts;
      this.travellers = travellers;
      this.hours = hours;
      this.hoursAtMost = hoursAtMost;
    }
  }

  private static long series = 20261119;

  private final Kind kind;
  private final Pair pair;

  private ModelTest(Kind kind, int run) {
    this.kind = kind;
    pair = new Pair(kind + " run " + run);
  }

  public static void main(String[] args) {
    for (Kind kind : Kind.values()) {
      for (int run = 0; run < kind.runs; run++) {
        new ModelTest(kind, run).run(run);
      }
    }
    Check.end();
  }

  // ---- numbers

  private static int draw(int most) {
    series = series * 6364136223846793005L + 1442695040888963407L;
    return (int) ((series >>> 33) % most);
  }

  /** A number from the one to the other; now and then one at a bound, or behind it. */
  private static int from(int least, int most) {
    switch (draw(40)) {
      case 0: return least;
      case 1: return most;
      case 2: return draw(2) == 0 ? least - 1 : most + 1;
      case 3: return draw(9) > 0 ? most : draw(2) == 0 ? Integer.MIN_VALUE : Integer.MAX_VALUE;
      default: return least > most ? least : least + draw(most - least + 1);
    }
  }

  private int column() {
    return draw(3) == 0 ? from(0, 13) : draw(kind.side);
  }

  private int ground() {
    return draw(6) == 0 ? from(0, 20) : 2 + draw(6);
  }

  private int level() {
    return draw(5) == 0 ? from(0, 24) : 7 + draw(5);
  }

  private int landing() {
    return from(0, pair.landings() - 1);
  }

  private int punt() {
    return from(0, pair.punts() - 1);
  }

  private int traveller() {
    return from(0, pair.travellers() - 1);
  }

  // ---- a run

  private void run(int run) {
    for (int hour = 0; hour < 12 && run % 3 != 0; hour++) {
      pair.setWater(hour, 7 + draw(4));
    }
    for (int left = draw(run % 2 == 0 ? 70 : 20); left > 0; left--) {
      pair.setGround(column(), column(), ground());
    }
    while (pair.landings() < kind.landings) {
      pair.addLanding(draw(kind.side), draw(kind.side));
    }
    while (pair.punts() < kind.punts) {
      launch();
    }
    while (pair.travellers() < kind.travellers) {
      addTraveller();
    }
    while (pair.callsLeft() > 1) {
      step();
    }
    pair.digest();
  }

  private void step() {
    int what = draw(20);
    if (what < 9) {
      change();
    } else if (what < 15) {
      ask();
    } else if (what < 17) {
      lookAhead();
    } else {
      pair.digest();
    }
  }

  // ---- calls that change something

  private void change() {
    switch (draw(14)) {
      case 0:
      case 1:
        pair.setGround(column(), column(), ground());
        break;
      case 2:
        pair.setWater(from(0, 11), level());
        break;
      case 3:
        pair.setStake(column(), column(), from(0, 9));
        break;
      case 4:
        addOrLaunch();
        break;
      case 5:
        pair.setToll(punt(), from(0, 50));
        break;
      case 6:
      case 7:
        addTraveller();
        break;
      default:
        pair.pass(draw(6) == 0 ? from(1, kind.hoursAtMost) : 1 + draw(kind.hours));
    }
  }

  /** Rarely, so that there are runs with few of them, and runs in which one comes late. */
  private void addOrLaunch() {
    int chance = draw(12);
    if (chance < 3) {
      pair.addLanding(column(), column());
    } else if (chance < 6) {
      launch();
    }
  }

  private void launch() {
    int draught = draw(5) == 0 ? from(1, 4) : 1 + draw(2);
    int pole = draw(5) == 0 ? from(2, 12) : 6 + draw(7);
    pair.launch(landing(), landing(), draught, pole, from(1, 6), from(0, 50));
  }

  private void addTraveller() {
    int purse = draw(3) == 0 ? draw(80) : from(0, 1000);
    pair.addTraveller(landing(), landing(), purse);
  }

  // ---- calls that tell something

  private void ask() {
    switch (draw(7)) {
      case 0:
        pair.count(from(0, 10));
        break;
      case 1:
        pair.cell(column(), column(), from(0, 5));
        break;
      case 2:
        pair.landing(landing(), from(0, 4));
        break;
      case 3:
        pair.chain(landing(), landing(), from(0, 2));
        break;
      case 4:
        pair.mean();
        break;
      case 5:
        pair.punt(punt(), from(0, 8));
        break;
      default:
        pair.traveller(traveller(), from(0, 6));
    }
  }

  private void lookAhead() {
    switch (draw(5)) {
      case 0:
        pair.opens(punt());
        break;
      case 1:
        pair.aground(punt(), from(1, 100));
        break;
      case 2:
        pair.arrives(traveller());
        break;
      default:
        pair.crossing(punt(), from(0, 24));
    }
  }
}
