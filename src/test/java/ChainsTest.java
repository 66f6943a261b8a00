/** Promise 17: chain. */
final class ChainsTest {
  public static void main(String[] args) {
    FloodFerry ferry = new FloodFerry();
    for (int landing = 0; landing < 8; landing++) {
      ferry.addLanding(landing, landing);
    }
    expectChain(ferry, 0, 0, 0, -1, 0);
    expectChain(ferry, 0, 1, -1, -1, -1);
    ferry.launch(1, 0, 1, 2, 1, 10);
    expectChain(ferry, 0, 1, 1, 0, 10);
    expectChain(ferry, 1, 0, 1, 0, 10);
    expectChain(ferry, 0, 2, -1, -1, -1);
    ferry.launch(0, 1, 1, 2, 1, 4);
    expectChain(ferry, 0, 1, 1, 0, 4);
    ferry.launch(1, 2, 1, 2, 1, 50);
    ferry.launch(3, 0, 1, 2, 1, 20);
    ferry.launch(2, 3, 1, 2, 1, 30);
    expectChain(ferry, 0, 2, 2, 0, 50);
    expectChain(ferry, 2, 0, 2, 2, 50);
    ferry.setToll(2, 45);
    expectChain(ferry, 0, 2, 2, 0, 49);
    ferry.setToll(4, 0);
    expectChain(ferry, 0, 2, 2, 0, 20);
    expectChain(ferry, 1, 3, 2, 0, 24);
    expectChain(ferry, 3, 1, 2, 3, 24);
    ferry.launch(2, 0, 1, 2, 1, 50);
    expectChain(ferry, 0, 2, 1, 5, 50);
    expectChain(ferry, 2, 1, 1, 2, 45);
    expectChain(ferry, 2, 2, 0, -1, 0);
    expectChain(ferry, 2, 7, -1, -1, -1);
    longest();
    wrong(ferry);
    Check.end();
  }

  /** Six punts in a row; the water is nothing to it. */
  private static void longest() {
    FloodFerry ferry = new FloodFerry();
    for (int landing = 0; landing < 8; landing++) {
      ferry.addLanding(13, landing);
    }
    for (int punt = 0; punt < 6; punt++) {
      ferry.launch(6 - punt, 5 - punt, 4, 2, 1, 50);
    }
    expectChain(ferry, 0, 6, 6, 5, 300);
    expectChain(ferry, 6, 0, 6, 0, 300);
    expectChain(ferry, 0, 7, -1, -1, -1);
  }

  private static void wrong(FloodFerry ferry) {
    Check.index("from -1", ferry, () -> ferry.chain(-1, 0, 0));
    Check.index("from 8", ferry, () -> ferry.chain(8, 0, 0));
    Check.index("to -1", ferry, () -> ferry.chain(0, -1, 0));
    Check.index("to 8", ferry, () -> ferry.chain(0, 8, 0));
    Check.index("what -1", ferry, () -> ferry.chain(0, 1, -1));
    Check.index("what 3", ferry, () -> ferry.chain(0, 1, 3));
    Check.index("what 3 for the same landing", ferry, () -> ferry.chain(1, 1, 3));
    FloodFerry empty = new FloodFerry();
    Check.index("no landings", empty, () -> empty.chain(0, 0, 0));
  }

  private static void expectChain(FloodFerry ferry, int from, int to, int... answers) {
    for (int what = 0; what < answers.length; what++) {
      String call = "chain(" + from + ", " + to + ", " + what + ")";
      Check.due(call, ferry.chain(from, to, what), answers[what]);
    }
  }
}
