/** Promises 1 to 10: a new object, its numbers, its loads, what goes and whether it falls. */
public final class TowerTest {
  private static final long NOTHING = -1_000_000_000_000L;

  public static void main(String[] args) {
    newObject();
    stiff();
    tier();
    terms();
    wind();
    plate();
    joint();
    tension();
    greatestTension();
    goes();
    falls();
    Due.close("TowerTest");
  }

  private static void newObject() {
    CornerWinds x = new CornerWinds();
    for (int joint = 0; joint < 48; joint++) {
      Due.is("new: kind", x.joint(joint, 0), 0);
      Due.is("new: quarters", x.joint(joint, 1), 0);
      Due.is("new: holds", x.joint(joint, 2), 1000);
      Due.is("new: stiff", x.joint(joint, 3), 5);
    }
    for (int what = 0; what < 8; what++) Due.is("new: count", x.count(what), 0);
    Due.is("new: status", x.status(), 0);
    Due.is("new: fault", x.fault(), -1);
    Due.is("new: night", x.night(0), -1);
    Due.is("new: when", x.when(), -1);
    Due.is("new: saw", x.saw(), -1);
    Due.is("new: odds", x.odds(0), 0);
    Due.is("NONE", CornerWinds.NONE, -1);
  }

  private static void stiff() {
    CornerWinds x = new CornerWinds();
    Due.is("stiff: what it was", x.stiff(0, 1), 5);
    Due.is("stiff: again", x.stiff(0, 9), 1);
    Due.is("stiff: the last joint", x.stiff(47, 9), 5);
    Due.is("stiff: kept", x.joint(47, 3), 9);
    int[][] wrong = {{-1, 5}, {48, 5}, {0, 0}, {0, 10}, {Integer.MIN_VALUE, 5}, {Integer.MAX_VALUE, 5}, {3, -5}};
    for (int[] w : wrong) {
      Due.is("stiff: wrong", x.stiff(w[0], w[1]), -1);
      Due.is("stiff: status", x.status(), -1);
    }
    Due.is("stiff: unchanged", x.joint(0, 3), 9);
    Due.is("stiff: good again", x.stiff(0, 5), 9);
    Due.is("stiff: status of a good one", x.status(), 0);
  }

  private static void tier() {
    CornerWinds x = new CornerWinds();
    for (int t = 0; t < 6; t++) {
      Due.is("tier: area", x.tier(t, 0, 20), 10);
      Due.is("tier: area was", x.tier(t, 0, 0), 20);
      Due.is("tier: dead", x.tier(t, 1, 100_000), 0);
      Due.is("tier: dead was", x.tier(t, 1, 0), 100_000);
    }
    int[][] wrong = {{-1, 0, 1}, {6, 0, 1}, {0, -1, 1}, {0, 2, 1}, {0, 0, -1}, {0, 0, 21}, {0, 1, -1}, {0, 1, 100_001}};
    for (int[] w : wrong) {
      Due.is("tier: wrong", x.tier(w[0], w[1], w[2]), -1);
      Due.is("tier: status", x.status(), -1);
    }
    Due.is("tier: unchanged", x.tier(0, 0, 3), 0);
    Due.is("tier: status of a good one", x.status(), 0);
  }

  private static void terms() {
    int[] least = {1, 1, 0, 0, 0, 0, 0, 0, 1}, most = {100_000, 100_000, 100, 10, 50, 100, 1000, 1000, 40};
    int[] first = {1000, 100, 10, 0, 0, 0, 1, 10, 1};
    CornerWinds x = new CornerWinds();
    for (int what = 0; what < 9; what++) {
      Due.is("terms: below the least", x.terms(what, least[what] - 1), -1);
      Due.is("terms: above the most", x.terms(what, most[what] + 1), -1);
      Due.is("terms: status", x.status(), -1);
      Due.is("terms: first, to the most", x.terms(what, most[what]), first[what]);
      Due.is("terms: status", x.status(), 0);
    }
    for (int what = 8; what >= 0; what--) Due.is("terms: to the least", x.terms(what, least[what]), most[what]);
    Due.is("terms: what", x.terms(-1, 1), -1);
    Due.is("terms: what", x.terms(9, 1), -1);
    x = new CornerWinds();
    Due.is("terms: WELD below BOLT", x.terms(0, 99), -3);
    Due.is("terms: status", x.status(), -3);
    Due.is("terms: WELD as BOLT", x.terms(0, 100), 1000);
    Due.is("terms: BOLT above WELD", x.terms(1, 101), -3);
    Due.is("terms: BOLT as WELD", x.terms(1, 100), 100);
    Due.is("terms: a number that can't be comes first", x.terms(1, 100_001), -1);
  }

  private static void wind() {
    CornerWinds x = new CornerWinds();
    int[][] wrong = {{-1, 1, 1}, {8, 1, 1}, {0, 0, 1}, {0, 101, 1}, {0, 1, 0}, {0, 1, 1_000_001}};
    for (int[] w : wrong) Due.is("wind: wrong", x.wind(w[0], w[1], w[2]), -1);
    Due.is("wind: status", x.status(), -1);
    for (int i = 0; i < 16; i++) Due.is("wind: number", x.wind(i % 8, i == 0 ? 100 : 1, i == 0 ? 1_000_000 : 1), i);
    Due.is("wind: a seventeenth", x.wind(0, 1, 1), -5);
    Due.is("wind: status", x.status(), -5);
    Due.is("wind: wrong ahead of no room", x.wind(8, 1, 1), -1);
    Due.is("wind: count", x.count(0), 16);
  }

  private static void plate() {
    CornerWinds x = Due.tower();
    Due.is("plate: welded", x.plate(7, 1), -3);
    Due.is("plate: status", x.status(), -3);
    Due.bolt(x, 7);
    Due.is("plate: had none", x.plate(7, 1), 0);
    Due.is("plate: had one", x.plate(7, 4), 1);
    int[][] wrong = {{-1, 1}, {48, 1}, {7, -1}, {7, 5}, {8, 5}};
    for (int[] w : wrong) Due.is("plate: wrong", x.plate(w[0], w[1]), -1);
    Due.is("plate: had four", x.plate(7, 3), 4);
    Due.is("plate: status", x.status(), 0);
    Due.bolt(x, 7);
    Due.is("plate: none behind a new bolting", x.plate(7, 2), 0);
    Due.is("plate: welding", x.step(0, 7, 0, 0, 0), 1);
    Due.is("plate: none on what is welded", x.joint(7, 1), 0);
    Due.is("plate: welded again", x.plate(7, 0), -3);
  }

  private static void joint() {
    CornerWinds x = Due.tower();
    Due.bolt(x, 47);
    x.terms(1, 101);
    int[] holds = {101, 325, 550, 775, 1000};
    for (int q = 0; q <= 4; q++) {
      x.plate(47, q);
      Due.is("joint: bolted", x.joint(47, 0), 1);
      Due.is("joint: quarters", x.joint(47, 1), q);
      Due.is("joint: holds, cut", x.joint(47, 2), holds[q]);
    }
    Due.is("joint: welded", x.joint(46, 0), 0);
    int[][] wrong = {{-1, 0}, {48, 0}, {0, -1}, {0, 4}};
    for (int[] w : wrong) Due.is("joint: none", x.joint(w[0], w[1]), -1);
    Due.is("joint: no status", x.status(), 0);
  }

  private static void tension() {
    CornerWinds x = new CornerWinds();
    x.wind(1, 10, 1);
    tensionByWays();
    long[] top = {21_000, -14_000, 21_000, -14_000, 14_000, -21_000, 14_000, -21_000};
    for (int i = 0; i < 8; i++) Due.is("tension: across an edge, highest tier", x.tension(0, 40 + i, 1), top[i]);
    // Tier 4: twice the area, its upright three times as much.
    Due.is("tension: the tier below", x.tension(0, 32, 1), 35_000 + 10_500);
    // Tier 0: six times the area, 21 times the upright.
    Due.is("tension: the lowest tier", x.tension(0, 0, 1), 105_000 + 73_500);
    x.terms(3, 4);
    Due.is("tension: leg", x.tension(0, 0, 1), 105_000 + 44_100);
    x.terms(4, 30);
    Due.is("tension: swim", x.tension(0, 0, 1), 73_500 + 30_870);
    Due.is("tension: without current", x.tension(0, 0, 0), 105_000 + 44_100);
    x.tier(0, 1, 150);
    Due.is("tension: dead", x.tension(0, 0, 0), -900);
    Due.is("tension: dead of its own tier alone", x.tension(0, 8, 0) > 0 ? 1 : 0, 1);
    int[][] wrong = {{-1, 0, 1}, {1, 0, 1}, {0, -1, 1}, {0, 48, 1}, {0, 0, -1}, {0, 0, 2}};
    for (int[] w : wrong) Due.is("tension: nothing", x.tension(w[0], w[1], w[2]), NOTHING);
    twisted();
  }

  /** 100 on the lowest tier alone: what the left braces of the north and the east face bear by each way. */
  private static void tensionByWays() {
    CornerWinds x = new CornerWinds();
    Due.areaOn(x, 0, 1);
    x.terms(2, 0);
    long[] east = {10, 7, 0, -7, -10, -7, 0, 7}, north = {0, 7, 10, 7, 0, -7, -10, -7};
    for (int way = 0; way < 8; way++) {
      x.wind(way, 100, 1);
      Due.is("tension: way " + way, x.tension(way, 0, 1), 2500 * east[way]);
      Due.is("tension: way " + way, x.tension(way, 2, 1), 2500 * north[way]);
    }
  }

  /** By hand: a north face of 14, all others of 10; 8 on it east. */
  private static void twisted() {
    CornerWinds x = new CornerWinds();
    Due.areaOn(x, 0, 1);
    x.terms(2, 0);
    x.wind(0, 8, 1);
    x.wind(4, 8, 1);
    x.stiff(0, 9);
    // x is 88/260, w is 8/260.
    long[] east = {2769, -1538, 153, -153, 1846, -1846, -153, 153};
    for (int i = 0; i < 8; i++) {
      Due.is("tension: twisted", x.tension(0, i, 1), east[i]);
      Due.is("tension: the other way, cut towards 0", x.tension(1, i, 1), -east[i]);
    }
  }

  private static void greatestTension() {
    CornerWinds x = new CornerWinds();
    for (int t = 0; t < 6; t++) x.tier(t, 0, 20);
    for (int joint = 0; joint < 48; joint++) x.stiff(joint, 9);
    x.terms(2, 100);
    x.wind(0, 100, 1);
    x.wind(3, 100, 1);
    Due.is("tension: all greatest, shear", x.tension(0, 0, 1), 3_000_000);
    Due.is("tension: all greatest, upright", x.tension(0, 2, 1), 21_000_000);
    Due.is("tension: all greatest, across", x.tension(1, 6, 1), 2_100_000 + 14_700_000);
    x.tier(0, 1, 100_000);
    Due.is("tension: all greatest, dead", x.tension(1, 7, 1), -2_100_000 + 14_700_000 - 100_000_000);
    x.terms(0, 100_000);
    Due.is("goes: all greatest", x.goes(0, 0, -1), 0);
  }

  private static void goes() {
    CornerWinds x = Due.tower();
    Due.areaOn(x, 0, 1);
    x.terms(1, 1);
    x.terms(2, 0);
    x.wind(0, 8, 1);
    Due.are("goes: none", Due.gone(x, 0, 1));
    Due.bolt(x, 4, 0);
    Due.are("goes: of alike ones the first, then the other", Due.gone(x, 0, 1), 0, 4);
    x.plate(0, 4);
    Due.are("goes: the mended one stays", Due.gone(x, 0, 1), 4);
    x.terms(1, 2);
    x.plate(0, 0);
    Due.are("goes: what it just holds does not go", Due.gone(x, 0, 1));
    int[][] wrong = {{-1, 0, 0}, {1, 0, 0}, {0, -1, 0}, {0, 2, 0}, {0, 1, 0}, {0, 0, -2}, {0, 2, -1}};
    for (int[] w : wrong) Due.is("goes: none", x.goes(w[0], w[1], w[2]), -1);
    acrossTiers();
  }

  /** The greatest excess first, whatever tier it is on. */
  private static void acrossTiers() {
    CornerWinds x = Due.tower();
    x.terms(2, 0);
    x.terms(0, 100_000);
    x.wind(0, 10, 1);
    Due.bolt(x, 0, 8, 16);
    x.plate(0, 1);
    // Without leverage tier t bears 25 times (6 - t) by each left brace of its north and south face.
    Due.are("goes: tier by tier", Due.gone(x, 0, 1), 8);
    x.terms(1, 99);
    Due.are("goes: tier by tier", Due.gone(x, 0, 1), 8, 16);
    x.terms(1, 1);
    Due.are("goes: tier by tier", Due.gone(x, 0, 1), 8, 16);
    x.plate(0, 0);
    Due.are("goes: tier by tier", Due.gone(x, 0, 1), 0, 8, 16);
    Due.is("goes: how many", x.goes(0, 1, -1), 3);
    Due.is("goes: behind the last", x.goes(0, 1, 3), -1);
    x = Due.tower();
    Due.areaOn(x, 4, 1);
    x.terms(1, 1);
    x.terms(2, 0);
    x.wind(0, 40, 1);
    Due.bolt(x, 32, 8, 24, 4);
    Due.are("goes: of alike ones the lowest tier's", Due.gone(x, 0, 1), 4, 8, 24, 32);
  }

  private static void falls() {
    CornerWinds x = Due.tower();
    x.wind(0, 10, 1);
    Due.is("falls: not", x.falls(0, 1), -1);
    x.terms(2, 100);
    x.terms(1, 1);
    Due.bolt(x, 18, 19);
    // East of tier 2: an upright of 1000 on two braces, then on one.
    Due.is("falls: the tier", x.falls(0, 1), 2);
    Due.are("falls: what went", Due.gone(x, 0, 1), 18, 19);
    x.terms(3, 10);
    Due.is("falls: not without an upright", x.falls(0, 1), -1);
    x.terms(3, 0);
    Due.bolt(x, 2, 3);
    Due.is("falls: the one that goes first", x.falls(0, 1), 0);
    Due.are("falls: behind that nothing goes any more", Due.gone(x, 0, 1), 2, 3);
    int[][] wrong = {{-1, 0}, {1, 0}, {0, -1}, {0, 2}};
    for (int[] w : wrong) Due.is("falls: none", x.falls(w[0], w[1]), -1);
    swims();
    bareFace();
  }

  private static void swims() {
    CornerWinds x = Due.tower();
    Due.areaOn(x, 3, 1);
    x.terms(2, 100);
    x.terms(1, 4);
    x.wind(2, 8, 1);
    Due.bolt(x, 24, 25);
    x.terms(4, 50);
    Due.is("falls: with current", x.falls(0, 1), -1);
    Due.is("falls: just holds", x.falls(0, 0), -1);
    x.terms(1, 3);
    Due.is("falls: without current", x.falls(0, 0), 3);
    Due.is("falls: with current", x.falls(0, 1), -1);
  }

  /**
   * A face without a brace stands as long as it has no upright. The south face is the stiffer one at first, so
   * that the tower twists one way; without its left brace it twists the other way.
   */
  private static void bareFace() {
    CornerWinds x = Due.tower();
    Due.areaOn(x, 0, 20);
    x.terms(0, 1090);
    x.terms(1, 1);
    x.terms(2, 0);
    x.wind(0, 100, 1);
    x.stiff(4, 9);
    x.stiff(5, 9);
    Due.bolt(x, 2, 3, 4);
    x.plate(4, 2);
    Due.are("falls: a bare face", Due.gone(x, 0, 0), 3, 4, 2);
    Due.is("falls: it stands on three", x.falls(0, 0), -1);
    x.terms(2, 1);
    Due.are("falls: the same with an upright", Due.gone(x, 0, 0), 3, 4, 2);
    Due.is("falls: that can't stand on a bare face", x.falls(0, 0), 0);
    x.terms(3, 10);
    Due.is("falls: with the leg at the corner it can", x.falls(0, 0), -1);
  }
}
