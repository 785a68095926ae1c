/** Terms I and promises 1 to 10: for each sentence that names an edge a test at the edge and one beyond it. */
public final class EdgesOneTest {
  private static final long NOTHING = -1_000_000_000_000L;
  private static final int LEAST = Integer.MIN_VALUE, MOST = Integer.MAX_VALUE;

  public static void main(String[] args) {
    tiers();
    joints();
    stiffs();
    kinds();
    areas();
    dead();
    weldAndBolt();
    boltNotAboveWeld();
    holds();
    leverLegSwimFails();
    winds();
    windNumbers();
    ways();
    faceOrEdge();
    refusedInOrder();
    refusedChangesNothing();
    ofItAndAllAbove();
    tiersAboveAndOne();
    swim();
    leverAndLeg();
    exact();
    shiftsAndTwists();
    shares();
    oneBareFace();
    threeSingleBraces();
    uprightOnABareFace();
    goesIfAbove();
    theGreatestCut();
    alikeAcrossTiers();
    solvedAnew();
    newObject();
    stiffAnswers();
    plateAnswers();
    jointAnswers();
    tensionCut();
    tensionWithout();
    goesByNumber();
    fallsByTier();
    Due.close("EdgesOneTest");
  }

  /** Area 1 on one tier alone and no leverage: a wind of 40 on a face puts 10 on each left brace. */
  private static CornerWinds plain(int tier) {
    CornerWinds x = Due.tower();
    Due.areaOn(x, tier, 1);
    x.terms(2, 0);
    return x;
  }

  private static void tiers() {
    Due.says("TIERS 0 (lowest) .. 5");
    CornerWinds x = plain(5);
    for (int t = 0; t <= 5; t++) Due.is("tier " + t, x.tier(t, 1, t), 0);
    for (int t : new int[] {-1, 6, LEAST, MOST}) Due.is("tier " + t, x.tier(t, 1, 1), -1);
    for (int t = 0; t <= 5; t++) Due.is("tier " + t + " is as it was", x.tier(t, 1, 0), t);
    x.wind(0, 40, 1);
    for (int t = 0; t <= 5; t++) Due.is("what the highest tier has goes down to " + t, x.tension(0, 8 * t, 1), 10_000);
    Due.areaOn(x, 0, 1);
    Due.is("what the lowest tier has is its own", x.tension(0, 0, 1), 10_000);
    Due.is("and not the next one's", x.tension(0, 8, 1), 0);
  }

  private static void joints() {
    Due.says("each with FACES 0 north, 1 east, 2 south, 3 west; on each two BRACES, 0 left and 1 right: JOINT 8 times the TIER, 2 times the FACE and the side (0 .. 47)");
    for (int tier = 0; tier < 6; tier++) {
      CornerWinds x = plain(tier);
      x.wind(0, 40, 1);
      x.wind(2, 40, 1);
      long[] east = {10_000, -10_000, 0, 0, 10_000, -10_000, 0, 0};
      for (int i = 0; i < 8; i++) {
        Due.is("east, joint " + (8 * tier + i), x.tension(0, 8 * tier + i, 1), east[i]);
        Due.is("north, joint " + (8 * tier + i), x.tension(1, 8 * tier + i, 1), east[(i + 6) % 8]);
      }
      Due.is("rule", Due.rule(x, "need tier*10+side"), 1);
      for (int i = 0; i < 8; i++) Due.is("tier and side of " + (8 * tier + i), x.need(1, 8 * tier + i, 0), 10 * tier + i / 2);
    }
    CornerWinds x = new CornerWinds();
    Due.is("the first joint", x.joint(0, 3), 5);
    Due.is("the last joint", x.joint(47, 3), 5);
    for (int j : new int[] {-1, 48, LEAST, MOST}) {
      Due.is("stiff of joint " + j, x.stiff(j, 5), -1);
      Due.is("plate of joint " + j, x.plate(j, 0), -1);
      Due.is("joint " + j, x.joint(j, 0), -1);
      Due.is("wish for joint " + j, x.wish(j), -1);
      Due.is("enough for joint " + j, x.enough(j), -1);
    }
  }

  private static void stiffs() {
    Due.says("STIFF 1 .. 9 (5 at first)");
    CornerWinds x = plain(0);
    x.wind(0, 40, 1);
    for (int joint = 0; joint < 48; joint++) Due.is("at first", x.joint(joint, 3), 5);
    for (int joint : new int[] {0, 47}) {
      Due.is("the least", x.stiff(joint, 1), 5);
      Due.is("one less", x.stiff(joint, 0), -1);
      Due.is("the least stays", x.joint(joint, 3), 1);
      Due.is("the most", x.stiff(joint, 9), 1);
      Due.is("one more", x.stiff(joint, 10), -1);
      Due.is("the most stays", x.joint(joint, 3), 9);
      for (int value : new int[] {-1, -5, LEAST, MOST}) Due.is("stiff " + value, x.stiff(joint, value), -1);
    }
    x.stiff(1, 1);
    Due.is("tension of the stiffest", x.tension(0, 0, 1), 18_000);
    Due.is("tension of the least stiff", x.tension(0, 1, 1), -2000);
  }

  private static void kinds() {
    Due.says("its JOINT is 0 WELDED (at first), 1 BOLTED with 0 .. 4 quarters of a PLATE (0 at first)");
    CornerWinds x = Due.tower();
    for (int joint = 0; joint < 48; joint++) Due.is("at first", x.joint(joint, 0), 0);
    Due.is("no such kind", x.step(0, 9, 2, 0, 0), -1);
    Due.is("no such kind", x.step(0, 9, -1, 0, 0), -1);
    Due.is("it is welded still", x.joint(9, 0), 0);
    Due.bolt(x, 9);
    Due.is("bolted", x.joint(9, 0), 1);
    Due.is("no quarters at first", x.joint(9, 1), 0);
    Due.is("none", x.plate(9, 0), 0);
    Due.is("one less", x.plate(9, -1), -1);
    Due.is("all four", x.plate(9, 4), 0);
    Due.is("one more", x.plate(9, 5), -1);
    Due.is("quarters", x.joint(9, 1), 4);
    for (int q = 4; q >= 0; q--) Due.is("quarters " + q, x.plate(9, q), q == 4 ? 4 : q + 1);
    for (int q : new int[] {LEAST, MOST}) Due.is("quarters " + q, x.plate(9, q), -1);
    Due.is("the others are welded", x.joint(8, 0) + x.joint(10, 0), 0);
    Due.is("what is welded has none", x.plate(8, 0), -3);
  }

  private static void areas() {
    Due.says("AREA of a TIER 0 .. 20 (10 at first)");
    CornerWinds x = Due.tower();
    x.terms(2, 0);
    x.wind(0, 100, 1);
    Due.is("at first, the highest tier", x.tension(0, 40, 1), 250_000);
    for (int t = 0; t < 6; t++) {
      Due.is("the most", x.tier(t, 0, 20), 10);
      Due.is("one more", x.tier(t, 0, 21), -1);
    }
    Due.is("the most on all tiers", x.tension(0, 0, 1), 3_000_000);
    for (int t = 0; t < 6; t++) {
      Due.is("the least", x.tier(t, 0, 0), 20);
      Due.is("one less", x.tier(t, 0, -1), -1);
    }
    Due.is("none on all tiers", x.tension(0, 0, 1), 0);
    for (int value : new int[] {LEAST, MOST}) Due.is("area " + value, x.tier(0, 0, value), -1);
    Due.is("the least stays", x.tier(0, 0, 1), 0);
    Due.says("AREA (what 0), DEAD (1) of a TIER: what it was. -1.");
    for (int what : new int[] {-1, 2, LEAST, MOST}) Due.is("what " + what, x.tier(0, what, 1), -1);
  }

  private static void dead() {
    Due.says("DEAD 0 .. 100,000 (0 at first)");
    CornerWinds x = plain(0);
    x.wind(0, 40, 1);
    for (int t = 0; t < 6; t++) {
      Due.is("at first, to the most", x.tier(t, 1, 100_000), 0);
      Due.is("one more", x.tier(t, 1, 100_001), -1);
    }
    Due.is("the most of all tiers is its own alone", x.tension(0, 0, 1), 10_000 - 100_000_000);
    for (int t = 0; t < 6; t++) {
      Due.is("the least", x.tier(t, 1, 0), 100_000);
      Due.is("one less", x.tier(t, 1, -1), -1);
    }
    Due.is("none", x.tension(0, 0, 1), 10_000);
    Due.is("above the area's most", x.tier(0, 1, 21), 0);
    for (int value : new int[] {LEAST, MOST}) Due.is("dead " + value, x.tier(0, 1, value), -1);
    Due.is("as it was", x.tier(0, 1, 0), 21);
  }

  private static void weldAndBolt() {
    Due.says("WELD, BOLT hold 1 .. 100,000 (1000, 100 at first");
    CornerWinds x = Due.tower();
    Due.bolt(x, 1);
    Due.is("WELD at first", x.joint(0, 2), 1000);
    Due.is("BOLT at first", x.joint(1, 2), 100);
    Due.is("WELD, the most", x.terms(0, 100_000), 1000);
    Due.is("WELD, one more", x.terms(0, 100_001), -1);
    Due.is("BOLT, the most", x.terms(1, 100_000), 100);
    Due.is("BOLT, one more", x.terms(1, 100_001), -1);
    Due.is("both hold that", x.joint(0, 2) + x.joint(1, 2), 200_000);
    Due.is("BOLT, one less than the least", x.terms(1, 0), -1);
    Due.is("BOLT, the least", x.terms(1, 1), 100_000);
    Due.is("WELD, one less than the least", x.terms(0, 0), -1);
    Due.is("WELD, the least", x.terms(0, 1), 100_000);
    Due.is("both hold that", x.joint(0, 2) + x.joint(1, 2), 2);
    for (int value : new int[] {-1, LEAST, MOST}) {
      Due.is("WELD " + value, x.terms(0, value), -1);
      Due.is("BOLT " + value, x.terms(1, value), -1);
    }
  }

  private static void boltNotAboveWeld() {
    Due.says("BOLT not above WELD)");
    CornerWinds x = new CornerWinds();
    Due.is("BOLT above WELD", x.terms(1, 1001), -3);
    Due.is("BOLT as WELD", x.terms(1, 1000), 100);
    Due.is("WELD below BOLT", x.terms(0, 999), -3);
    Due.is("WELD as BOLT", x.terms(0, 1000), 1000);
    Due.is("WELD above", x.terms(0, 1001), 1000);
    Due.is("BOLT as WELD again", x.terms(1, 1001), 1000);
    Due.says("0 WELD, 1 BOLT, 2 LEVER, 3 LEG, 4 SWIM, 5 FAILS, 6 CALLING, 7 LOSS, 8 LEAD: what it was. -1; -3 BOLT would be above WELD.");
    Due.is("status", x.status(), 0);
    Due.is("BOLT above WELD", x.terms(1, 1002), -3);
    Due.is("status", x.status(), -3);
    for (int what : new int[] {-1, 9, LEAST, MOST}) Due.is("what " + what, x.terms(what, 1), -1);
    int[] at = {1001, 1001, 10, 0, 0, 0, 1, 10, 1};
    for (int what = 0; what <= 8; what++) Due.is("what " + what, x.terms(what, at[what]), at[what]);
  }

  private static void holds() {
    Due.says("JOINT HOLDS: WELD; if BOLTED, BOLT and (WELD less BOLT) times its quarters through 4, cut");
    int[][] due = {
      {1, 1, 1, 1, 1, 1, 1}, {2, 1, 1, 1, 1, 1, 2}, {3, 1, 1, 1, 2, 2, 3}, {4, 1, 1, 1, 2, 3, 4}, {5, 1, 1, 2, 3, 4, 5},
      {6, 1, 1, 2, 3, 4, 6}, {1000, 100, 100, 325, 550, 775, 1000}, {1000, 99, 99, 324, 549, 774, 1000},
      {100_000, 1, 1, 25_000, 50_000, 75_000, 100_000}, {100_000, 2, 2, 25_001, 50_001, 75_000, 100_000},
      {100_000, 99_999, 99_999, 99_999, 99_999, 99_999, 100_000}, {100_000, 100_000, 100_000, 100_000, 100_000, 100_000, 100_000}};
    for (int[] d : due) {
      CornerWinds x = Due.tower();
      x.terms(1, 1);
      x.terms(0, d[0]);
      x.terms(1, d[1]);
      Due.is("welded", x.joint(0, 2), d[0]);
      Due.bolt(x, 0);
      for (int q = 0; q <= 4; q++) {
        x.plate(0, q);
        Due.is("WELD " + d[0] + ", BOLT " + d[1] + ", quarters " + q, x.joint(0, 2), d[2 + q]);
      }
      Due.is("one that is welded does not hang on that", x.joint(1, 2), d[0]);
    }
  }

  /** Below its least, at it, at its most and beyond: term by term. */
  private static void range(CornerWinds x, int what, int least, int most, int first) {
    Due.is("what " + what + ", one less", x.terms(what, least - 1), -1);
    Due.is("what " + what + ", at first, to the most", x.terms(what, most), first);
    Due.is("what " + what + ", one more", x.terms(what, most + 1), -1);
    Due.is("what " + what + ", status", x.status(), -1);
    Due.is("what " + what + ", to the least", x.terms(what, least), most);
    Due.is("what " + what + ", status", x.status(), 0);
    for (int value : new int[] {LEAST, MOST}) Due.is("what " + what + ", " + value, x.terms(what, value), -1);
    Due.is("what " + what + ", as it was", x.terms(what, first), least);
  }

  private static void leverLegSwimFails() {
    CornerWinds x = new CornerWinds();
    Due.says("LEVER 0 .. 100 (10 at first)");
    range(x, 2, 0, 100, 10);
    Due.says("LEG 0 (the middle of the side; at first) .. 10 (the corner)");
    range(x, 3, 0, 10, 0);
    Due.says("SWIM 0 .. 50 hundredths (0 at first)");
    range(x, 4, 0, 50, 0);
    Due.says("FAILS 0 .. 100 (0 at first)");
    range(x, 5, 0, 100, 0);
    Due.says("CALLING, LOSS 0 .. 1000 (1, 10 at first)");
    range(x, 6, 0, 1000, 1);
    range(x, 7, 0, 1000, 10);
    Due.says("LEAD 1 .. 40 (1 at first)");
    range(x, 8, 1, 40, 1);
  }

  private static void winds() {
    Due.says("WINDS 0 .. 15 (16 at most)");
    CornerWinds x = new CornerWinds();
    for (int i = 0; i < 16; i++) {
      Due.is("count", x.count(0), i);
      Due.is("no such wind yet", x.tension(i, 0, 1), NOTHING);
      Due.is("its number", x.wind(0, 1 + i, 1), i);
    }
    Due.is("a seventeenth", x.wind(0, 1, 1), -5);
    Due.is("count", x.count(0), 16);
    Due.is("the last one blows", x.tension(15, 40, 1), 40_000);
    Due.is("none behind it", x.tension(16, 40, 1), NOTHING);
    Due.is("none behind it", x.falls(16, 1), -1);
    Due.is("none behind it", x.under(16, 1), -1);
    Due.is("none behind it", x.goes(16, 1, -1), -1);
    Due.says("A WIND: its number. -1; -5.");
    Due.is("status", x.status(), -5);
    Due.is("a number that can't be", x.wind(0, 1, 0), -1);
    Due.is("status", x.status(), -1);
  }

  private static void windNumbers() {
    Due.says("a WAY 0 .. 7, a FORCE 1 .. 100, ODDS 1 .. 1,000,000");
    int[][] wrong = {{-1, 1, 1}, {8, 1, 1}, {LEAST, 1, 1}, {MOST, 1, 1}, {0, 0, 1}, {0, 101, 1}, {0, LEAST, 1}, {0, MOST, 1},
      {0, 1, 0}, {0, 1, 1_000_001}, {0, 1, LEAST}, {0, 1, MOST}};
    CornerWinds x = new CornerWinds();
    for (int[] w : wrong) {
      Due.is("wind " + w[0] + ", " + w[1] + ", " + w[2], x.wind(w[0], w[1], w[2]), -1);
      Due.is("count", x.count(0), 0);
    }
    int[][] right = {{0, 1, 1}, {7, 1, 1}, {0, 100, 1}, {0, 1, 1_000_000}, {7, 100, 1_000_000}};
    for (int i = 0; i < right.length; i++) Due.is("wind", x.wind(right[i][0], right[i][1], right[i][2]), i);
    Due.is("the least force", x.tension(0, 40, 1), 2500);
    Due.is("the greatest force", x.tension(2, 40, 1), 250_000);
    x = new CornerWinds();
    x.terms(1, 1);
    x.terms(0, 1);
    x.terms(2, 100);
    x.wind(7, 1, 1);
    Due.is("the least odds", x.odds(0), 100);
    x.wind(7, 1, 1_000_000);
    Due.is("and the greatest", x.odds(0), 100_000_100);
  }

  private static void ways() {
    Due.says("By WAYS in tenths east and north: 0 (10, 0), 1 (7, 7), 2 (0, 10), 3 (-7, 7), 4 (-10, 0), 5 (-7, -7), 6 (0, -10), 7 (7, -7)");
    int[] east = {10, 7, 0, -7, -10, -7, 0, 7}, north = {0, 7, 10, 7, 0, -7, -10, -7};
    CornerWinds x = plain(0);
    for (int way = 0; way < 8; way++) {
      x.wind(way, 4, 1);
      Due.is("east by way " + way, x.tension(way, 0, 1), 100 * east[way]);
      Due.is("less that on the right", x.tension(way, 5, 1), -100 * east[way]);
      Due.is("north by way " + way, x.tension(way, 2, 1), 100 * north[way]);
      Due.is("less that on the right", x.tension(way, 7, 1), -100 * north[way]);
    }
    x.terms(2, 100);
    for (int way = 0; way < 8; way++) {
      // An upright of 4 tenths a tenth of the way's, halved between the braces of a face.
      Due.is("upright north by way " + way, x.tension(way, 0, 1), 100 * east[way] + 200 * north[way]);
      Due.is("upright east by way " + way, x.tension(way, 2, 1), 100 * north[way] + 200 * east[way]);
      Due.is("upright south by way " + way, x.tension(way, 4, 1), 100 * east[way] - 200 * north[way]);
      Due.is("upright west by way " + way, x.tension(way, 6, 1), 100 * north[way] - 200 * east[way]);
    }
  }

  private static void faceOrEdge() {
    Due.says("even ones blow on a face, odd ones across an edge");
    for (int way = 0; way < 8; way++) {
      CornerWinds x = new CornerWinds();
      x.wind(way, 1, 1);
      Due.rule(x, "need 5");
      Due.rule(x, "need 1 if face;need 2 if not face;edge");
      Due.is("asked for, way " + way, x.need(0, 0, 0), way % 2 == 0 ? 5 : 0);
      Due.is("face, way " + way, x.need(1, 0, 0), way % 2 == 0 ? 1 : 2);
      Due.is("enough, way " + way, x.enough(0), way % 2 == 0 ? 1 : 0);
    }
  }

  private static void refusedInOrder() {
    Due.says("REFUSED by: -1 a number that can't be; -2 there is no such WIND, TEXT, TOWER, IMAGE; -3 it can't be by what stands; -4 twice; -5 no room; -6 a TEXT, a ROW that can't be. The first of these in that order.");
    CornerWinds x = Due.tower();
    Due.is("terms, -1 ahead of -3", x.terms(1, 100_001), -1);
    Due.is("terms, -1 ahead of -3", x.terms(0, 0), -1);
    Due.is("plate, -1 ahead of -3", x.plate(0, 5), -1);
    Due.is("tell, -1 ahead of -3", x.tell(0, 8, 0, 0), -1);
    Due.is("wish, -1 ahead of -3", x.wish(48), -1);
    for (int i = 0; i < 16; i++) x.wind(0, 1, 1);
    for (int[] w : new int[][] {{8, 1, 1}, {0, 0, 1}, {0, 1, 0}}) Due.is("wind, -1 ahead of -5", x.wind(w[0], w[1], w[2]), -1);
    for (int i = 0; i < 32; i++) x.street(0, 1, 1);
    for (int[] w : new int[][] {{8, 1, 1}, {0, 0, 1}, {0, 1, -1}}) Due.is("street, -1 ahead of -5", x.street(w[0], w[1], w[2]), -1);
    for (int i = 0; i < 12; i++) x.tower(1, 0, 0, 0, 0);
    int[][] towers = {{0, 0, 0, 0, 0}, {1, -1, 0, 0, 0}, {1, 0, -1, 0, 0}, {1, 0, 0, -1, 0}, {1, 0, 0, 0, 2}};
    for (int[] w : towers) Due.is("tower, -1 ahead of -5", x.tower(w[0], w[1], w[2], w[3], w[4]), -1);
    for (int i = 0; i < 7; i++) Due.rule(x, "edge");
    Due.is("rule, -5 ahead of -6", Due.rule(x, "no"), -5);
    for (int i = 0; i < 20; i++) Due.row(x, 0, 0);
    Due.is("row, -5 ahead of -6", Due.row(x, 2), -5);
    Due.is("back, -1", x.back(2), -1);
    Due.is("back, -2", x.back(1), -2);
    refusedSteps();
    refusedWishes();
  }

  private static void refusedSteps() {
    CornerWinds x = Due.tower();
    Due.is("step", x.step(30, 0, 1, 0, 0), 1);
    int[][] bad = {{-1, 0, 1, 0}, {10_000, 0, 1, 0}, {29, 48, 1, 0}, {29, 0, 2, 0}, {29, 0, 1, 8}};
    for (int[] b : bad) Due.is("step, -1 ahead of -2 and -3", x.step(b[0], b[1], b[2], b[3], 1), -1);
    for (int[] b : bad) Due.is("step, -1 ahead of -3", x.step(b[0], b[1], b[2], b[3], 0), -1);
    Due.is("step, -2 ahead of -3", x.step(29, 0, 1, 0, 1), -2);
    Due.is("step, -3", x.step(29, 0, 1, 0, 0), -3);
    for (int i = 1; i < 60; i++) x.step(30, 0, 1, 0, 0);
    for (int[] b : bad) Due.is("step, -1 ahead of all", x.step(b[0], b[1], b[2], b[3], 1), -1);
    Due.is("step, -1 ahead of -5", x.step(30, 48, 1, 0, 0), -1);
    Due.is("step, -2 ahead of -5", x.step(30, 0, 1, 0, 1), -2);
    Due.is("step, -2 ahead of -3 and -5", x.step(29, 0, 1, 0, 1), -2);
    Due.is("step, -3 ahead of -5", x.step(29, 0, 1, 0, 0), -3);
    Due.is("step, -5", x.step(30, 0, 1, 0, 0), -5);
  }

  private static void refusedWishes() {
    CornerWinds x = Due.tower();
    for (int joint = 0; joint < 10; joint++) Due.bolt(x, joint);
    for (int joint = 0; joint < 9; joint++) x.wish(joint);
    Due.is("wish, -1 ahead of -5", x.wish(48), -1);
    Due.is("wish, -3 ahead of -5", x.wish(10), -3);
    Due.is("wish, -4 ahead of -5", x.wish(0), -4);
    Due.is("wish, -5", x.wish(9), -5);
    x.step(0, 0, 0, 0, 0);
    Due.is("wish, -3 ahead of -4 and -5", x.wish(0), -3);
  }

  private static void refusedChangesNothing() {
    Due.says("REFUSED by: -1 a number that can't be");
    CornerWinds x = Due.tower();
    Due.bolt(x, 3);
    x.plate(3, 2);
    x.step(7, 4, 1, 0, 0);
    x.find(1, 1, 50);
    int[] before = all(x);
    x.stiff(3, 0); x.stiff(3, 10); x.tier(0, 0, 21); x.tier(0, 1, -1); x.terms(1, 1001); x.terms(0, 99); x.terms(8, 0);
    x.wind(0, 0, 1); x.plate(3, 5); x.plate(5, 1); x.step(6, 5, 1, 0, 0); x.step(8, 5, 1, 0, 1); x.step(8, 5, 1, 8, 0);
    x.wish(5); x.find(1, 2, 10_000); x.tell(1, 2, 1, 49); x.tell(1, 2, 1, 10_000); x.street(0, 21, 1); x.row();
    x.tower(1, 0, 0, 0, 2); x.image(2); x.back(0); x.rule();
    int[] behind = all(x);
    for (int i = 0; i < before.length; i++) Due.is("refused calls change nothing, " + i, behind[i], before[i]);
    Due.is("what it was: area", x.tier(0, 0, 10), 10);
    Due.is("what it was: dead", x.tier(0, 1, 0), 0);
    Due.is("what it was: weld", x.terms(0, 1000), 1000);
    Due.is("what it was: bolt", x.terms(1, 100), 100);
    Due.is("what it was: lead", x.terms(8, 1), 1);
  }

  private static int[] all(CornerWinds x) {
    int[] s = new int[40];
    int i = 0;
    for (int joint = 3; joint < 6; joint++) for (int what = 0; what < 4; what++) s[i++] = x.joint(joint, what);
    for (int what = 0; what < 8; what++) s[i++] = x.count(what);
    for (int person = 1; person < 3; person++) for (int fact = 1; fact < 3; fact++) s[i++] = x.knew(person, fact);
    for (int what = 0; what < 6; what++) s[i++] = x.drawing(1, what);
    return s;
  }

  /** Areas of 1 to 6 from the lowest tier up. */
  private static CornerWinds growing(int lever) {
    CornerWinds x = new CornerWinds();
    for (int t = 0; t < 6; t++) x.tier(t, 0, t + 1);
    x.terms(2, lever);
    x.wind(0, 100, 1);
    return x;
  }

  private static void ofItAndAllAbove() {
    Due.says("LOADS by a WIND, with or without CURRENT: on each TIER t the sum of FORCE times AREA of it and of all above");
    CornerWinds x = growing(0);
    int[] sums = {21, 20, 18, 15, 11, 6};
    for (int t = 0; t < 6; t++) {
      Due.is("tier " + t, x.tension(0, 8 * t, 1), 25_000 * sums[t]);
      Due.is("tier " + t + " without current", x.tension(0, 8 * t, 0), 25_000 * sums[t]);
    }
  }

  private static void tiersAboveAndOne() {
    Due.says("the same with AREA times how many TIERS it is above t and 1, times LEVER through 100, times 10 less LEG through 10, is UPRIGHT");
    CornerWinds x = growing(100);
    int[] sums = {91, 70, 50, 32, 17, 6};
    for (int t = 0; t < 6; t++) {
      Due.is("east of tier " + t, x.tension(0, 8 * t + 2, 1), 50_000 * sums[t]);
      Due.is("its right brace", x.tension(0, 8 * t + 3, 1), 50_000 * sums[t]);
      Due.is("west of tier " + t, x.tension(0, 8 * t + 6, 1), -50_000 * sums[t]);
    }
  }

  private static void swim() {
    Due.says("times 100 less SWIM (100 without CURRENT), through 1000, is SHEAR (east, north)");
    CornerWinds x = plain(0);
    x.wind(0, 40, 1);
    int[] swims = {0, 1, 49, 50};
    for (int s : swims) {
      x.terms(4, s);
      Due.is("swim " + s + " with current", x.tension(0, 0, 1), 100 * (100 - s));
      Due.is("swim " + s + " without", x.tension(0, 0, 0), 10_000);
    }
    x.terms(2, 100);
    Due.is("upright with current", x.tension(0, 2, 1), 10_000);
    Due.is("upright without", x.tension(0, 2, 0), 20_000);
  }

  private static void leverAndLeg() {
    Due.says("times LEVER through 100, times 10 less LEG through 10, is UPRIGHT");
    CornerWinds x = plain(0);
    x.wind(0, 100, 1);
    int[][] due = {{0, 0, 0}, {1, 0, 500}, {1, 9, 50}, {1, 10, 0}, {99, 0, 49_500}, {100, 0, 50_000}, {100, 1, 45_000}, {100, 9, 5000}, {100, 10, 0}};
    for (int[] d : due) {
      x.terms(2, d[0]);
      x.terms(3, d[1]);
      Due.is("lever " + d[0] + ", leg " + d[1], x.tension(0, 2, 1), d[2]);
    }
  }

  /** 98.01 on a north and a south face of 7 each: a left brace of stiffness s bears s times 7.000714. */
  private static CornerWinds sevens(int north, int south) {
    CornerWinds x = plain(0);
    x.terms(4, 1);
    x.wind(0, 99, 1);
    x.stiff(0, north);
    x.stiff(1, 7 - north);
    x.stiff(4, south);
    x.stiff(5, 7 - south);
    return x;
  }

  private static void exact() {
    Due.says("All are exact, nothing is cut.");
    CornerWinds x = sevens(1, 4);
    x.terms(1, 7);
    Due.bolt(x, 0);
    Due.is("cut it is what the joint holds", x.tension(0, 0, 1), 7000);
    Due.is("it goes by less than a thousandth", x.goes(0, 1, 0), 0);
    x.terms(1, 8);
    Due.is("it does not if it holds one more", x.goes(0, 1, -1), 0);
    x = plain(0);
    x.wind(0, 98, 1);
    x.stiff(0, 1);
    x.stiff(1, 6);
    x.stiff(4, 4);
    x.stiff(5, 3);
    x.terms(1, 7);
    Due.bolt(x, 0);
    Due.is("just as much", x.tension(0, 0, 1), 7000);
    Due.is("does not go", x.goes(0, 1, -1), 0);
  }

  private static void shiftsAndTwists() {
    Due.says("A TIER shifts by x, y and twists by w, so that its FACES, each as stiff as its BRACES together (of those whose JOINT is not GONE), bear the SHEAR: north stiff times (x - w), south stiff times (x + w), together the SHEAR east; east stiff times (y + w), west stiff times (y - w), together the SHEAR north; and - north + south + east - west is 0.");
    // One face is 14 stiff, all others 10, and 8 blows along it: it shifts by 88 / 260 and twists by 8 / 260 one way or the other.
    long[][] due = {
      {2769, -1538, 153, -153, 1846, -1846, -153, 153}, {153, -153, 2769, -1538, -153, 153, 1846, -1846},
      {1846, -1846, -153, 153, 2769, -1538, 153, -153}, {-153, 153, 1846, -1846, 153, -153, 2769, -1538}};
    for (int face = 0; face < 4; face++) {
      CornerWinds x = plain(0);
      x.wind(face % 2 == 0 ? 0 : 2, 8, 1);
      x.wind(face % 2 == 0 ? 4 : 6, 8, 1);
      x.stiff(2 * face, 9);
      for (int joint = 0; joint < 8; joint++) {
        Due.is("face " + face + ", joint " + joint, x.tension(0, joint, 1), due[face][joint]);
        Due.is("face " + face + ", joint " + joint + ", the other way", x.tension(1, joint, 1), -due[face][joint]);
      }
    }
  }

  private static void shares() {
    Due.says("UPRIGHT of the FACES: east that of the east, west less that, north that of the north, south less that");
    CornerWinds x = plain(0);
    x.terms(2, 100);
    x.wind(1, 40, 1);
    // 7 of shear on each left brace, less that on each right one; an upright of 28 on a face, 14 on a brace.
    long[] due = {21_000, 7000, 21_000, 7000, -7000, -21_000, -7000, -21_000};
    for (int joint = 0; joint < 8; joint++) Due.is("joint " + joint, x.tension(0, joint, 1), due[joint]);
    Due.says("TENSION of a BRACE: its STIFF times what its FACE's is times (left so, right less that), and UPRIGHT of the FACE times its STIFF through the FACE's, less DEAD of the TIER.");
    for (int face = 0; face < 4; face++) {
      x.stiff(2 * face, 9);
      x.stiff(2 * face + 1, 1);
    }
    x.tier(0, 1, 3);
    // Nine tenths and one tenth of 14 and of 28, less 3.
    long[] shared = {34_800, -1600, 34_800, -1600, -15_600, -7200, -15_600, -7200};
    for (int joint = 0; joint < 8; joint++) Due.is("joint " + joint, x.tension(0, joint, 1), shared[joint]);
  }

  /** What is put on a tier of its own so that each face in turn loses both braces: way, weld, stiff, bolted, what goes. */
  private static CornerWinds baring(int face) {
    int[] ways = {6, 0, 2, 4}, welds = {530, 510, 670, 510};
    int[][] stiff = {{3, 1}, {0, 2}, {7, 3}, {1, 2}}, bolted = {{0, 1, 4}, {2, 3}, {2, 4, 5}, {6, 7}};
    CornerWinds x = Due.tower();
    Due.areaOn(x, 0, 20);
    x.terms(1, 1);
    x.terms(0, welds[face]);
    x.terms(2, 0);
    x.wind(ways[face], 100, 1);
    x.stiff(stiff[face][0], stiff[face][1]);
    Due.bolt(x, bolted[face]);
    return x;
  }

  private static void oneBareFace() {
    Due.says("If there is not just one such x, y, w, it STANDS not.");
    long[][] gone = {{0, 7, 1}, {3, 4, 2}, {2, 4, 6, 5}, {7, 5, 6}};
    for (int face = 0; face < 4; face++) {
      CornerWinds x = baring(face);
      Due.are("what goes", Due.gone(x, 0, 1), gone[face]);
      Due.is("on three faces it stands", x.falls(0, 1), -1);
    }
  }

  /** The least that is just one x, y, w: one face bare, on each other one a single brace of stiff 1 left. */
  private static void threeSingleBraces() {
    Due.says("If there is not just one such x, y, w, it STANDS not.");
    // As it is told for the west bare. The first two to go are alike, one of each face that the wind does not blow on.
    int[] stiffs = {7, 1, 2, 1, 2, 1, 1, 2}, plates = {3, 4, 0, 2, 2, 4, 0, 0};
    int[] ways = {2, 0, 2, 0};
    long[][] gone = {{1, 4, 6, 0, 2}, {3, 6, 4, 2, 0}, {0, 5, 2, 4, 6}, {2, 7, 0, 6, 4}};
    for (int bare = 0; bare < 4; bare++) {
      CornerWinds x = Due.tower();
      x.terms(0, 1031);
      x.terms(1, 16);
      x.terms(2, 0);
      Due.areaOn(x, 0, 20);
      x.wind(ways[bare], 83, 1);
      for (int i = 0; i < 8; i++) {
        int joint = turned(i, bare);
        x.stiff(joint, stiffs[i]);
        Due.bolt(x, joint);
        x.plate(joint, plates[i]);
      }
      Due.are("what goes", Due.gone(x, 0, 1), gone[bare]);
      Due.is("on three single braces it stands", x.falls(0, 1), -1);
    }
  }

  /** The joint that does, if that face is bare, what a joint does if the west is. */
  private static int turned(int joint, int bare) {
    int face = joint / 2, side = joint % 2;
    int[][] faces = {{3, 2, 1, 0}, {2, 3, 0, 1}, {1, 0, 3, 2}, {0, 1, 2, 3}};
    return 2 * faces[bare][face] + side;
  }

  private static void uprightOnABareFace() {
    Due.says("if a FACE has an UPRIGHT other than 0, and no BRACE, it STANDS not");
    for (int face = 0; face < 4; face++) {
      CornerWinds x = baring(face);
      x.terms(3, 9);
      Due.is("no lever: no upright", x.falls(0, 1), -1);
      x.terms(2, 1);
      Due.is("the least lever", x.falls(0, 1), 0);
      x.terms(3, 10);
      Due.is("the leg at the corner: no upright", x.falls(0, 1), -1);
      x.terms(3, 9);
      Due.is("the least upright", x.falls(0, 1), 0);
    }
  }

  private static void goesIfAbove() {
    Due.says("A JOINT GOES, if that is above what it HOLDS.");
    CornerWinds x = plain(0);
    x.wind(0, 40, 1);
    Due.bolt(x, 0);
    x.terms(1, 10);
    Due.is("just as much", x.goes(0, 1, -1), 0);
    x.terms(1, 9);
    Due.is("more", x.goes(0, 1, -1), 1);
    Due.says("less DEAD of the TIER");
    x.tier(0, 1, 1);
    Due.is("the dead weight takes just enough", x.goes(0, 1, -1), 0);
    x.terms(1, 8);
    Due.is("not enough", x.goes(0, 1, -1), 1);
    x.tier(1, 1, 100);
    Due.is("another tier's is no help", x.goes(0, 1, -1), 1);
    x = plain(0);
    x.wind(0, 40, 1);
    x.terms(1, 1);
    x.terms(0, 1);
    x.tier(0, 1, 9);
    Due.is("all hold the least, and just enough", x.goes(0, 1, -1), 0);
    x.tier(0, 1, 8);
    Due.is("all hold the least", x.goes(0, 1, 0), 0);
  }

  private static void theGreatestCut() {
    Due.says("Of all that go, the one for which TENSION less what it HOLDS is the greatest, times 1000, cut, of alike ones the first, is GONE");
    CornerWinds x = sevens(3, 4);
    x.terms(1, 21);
    x.terms(0, 28);
    Due.bolt(x, 0);
    // 3 / 1400 and 4 / 1400 too much: two thousandths both.
    Due.is("alike if it is cut, the first", x.goes(0, 1, 0), 0);
    x = sevens(2, 4);
    x.terms(1, 14);
    x.terms(0, 28);
    Due.bolt(x, 0);
    // 2 / 1400 and 4 / 1400: one thousandth and two.
    Due.is("the greatest", x.goes(0, 1, 0), 4);
    x = sevens(4, 3);
    x.terms(1, 21);
    x.terms(0, 28);
    Due.bolt(x, 4);
    Due.is("the first is the greater one, too", x.goes(0, 1, 0), 0);
    x = sevens(3, 3);
    x.terms(1, 21);
    Due.bolt(x, 0, 4);
    Due.is("just alike", x.goes(0, 1, 0), 0);
    x = sevens(1, 1);
    x.terms(1, 7);
    Due.bolt(x, 4);
    Due.is("cut it is 0, and goes", x.goes(0, 1, 0), 4);
    Due.bolt(x, 0);
    Due.is("0 both, the first", x.goes(0, 1, 0), 0);
  }

  /** The area lies on tier 1, so that tiers 0 and 1 bear the same: 7 on all their faces that count. */
  private static CornerWinds twoTiers(int low, int high) {
    CornerWinds x = sevens(low, 3);
    Due.areaOn(x, 1, 1);
    x.stiff(8, high);
    x.stiff(9, 7 - high);
    x.stiff(12, 3);
    x.stiff(13, 4);
    return x;
  }

  private static void alikeAcrossTiers() {
    Due.says("times 1000, cut, of alike ones the first, is GONE");
    CornerWinds x = twoTiers(3, 4);
    x.terms(1, 21);
    x.terms(0, 28);
    Due.bolt(x, 0);
    Due.is("alike if it is cut, the lower tier's", x.goes(0, 1, 0), 0);
    x = twoTiers(2, 4);
    x.terms(1, 14);
    x.terms(0, 28);
    Due.bolt(x, 0);
    Due.is("the greatest", x.goes(0, 1, 0), 8);
    x = twoTiers(4, 3);
    x.terms(1, 21);
    x.terms(0, 28);
    Due.bolt(x, 8);
    Due.is("the lower tier's is the greater one, too", x.goes(0, 1, 0), 0);
  }

  private static void solvedAnew() {
    Due.says("then all is solved anew, and so on, till none goes, or a TIER STANDS not: it FALLS");
    CornerWinds x = plain(0);
    x.wind(0, 40, 1);
    x.terms(1, 9);
    x.terms(0, 12);
    Due.bolt(x, 0);
    // Without joint 0 the north is 5 stiff, all other faces 10: joint 4 bears 12, where it bore 10.
    Due.are("none goes behind it", Due.gone(x, 0, 1), 0);
    x.terms(0, 11);
    Due.are("another one goes behind it", Due.gone(x, 0, 1), 0, 4);
    Due.is("it stands", x.falls(0, 1), -1);
    x = Due.tower();
    x.terms(1, 1);
    x.terms(2, 100);
    x.wind(0, 9, 1);
    Due.bolt(x, 2, 3, 42, 43);
    Due.are("a tier that stands not ends it", Due.gone(x, 0, 1), 2, 3);
    Due.is("it falls there", x.falls(0, 1), 0);
    x.plate(2, 4);
    x.plate(3, 4);
    Due.are("mended, the other ones go", Due.gone(x, 0, 1), 42, 43);
    Due.is("it falls there", x.falls(0, 1), 5);
  }

  private static void newObject() {
    Due.says("`CornerWinds()`: All WELDED; no WINDS, TEXTS.");
    CornerWinds x = new CornerWinds();
    for (int joint = 0; joint < 48; joint++) Due.is("welded", x.joint(joint, 0), 0);
    for (int what = 0; what < 8; what++) Due.is("count of " + what, x.count(what), 0);
    Due.is("no text", x.need(0, 0, 0), -1);
    Due.is("no wind", x.falls(0, 0), -1);
    Due.says("The constants: `NONE = -1`: There is none.");
    Due.is("NONE", CornerWinds.NONE, -1);
  }

  private static void stiffAnswers() {
    Due.says("STIFF of a JOINT's BRACE: what it was. -1.");
    CornerWinds x = new CornerWinds();
    Due.is("what it was", x.stiff(8, 6), 5);
    Due.is("what it was", x.stiff(8, 6), 6);
    Due.is("what it was", x.stiff(8, 7), 6);
    Due.is("another one's", x.stiff(9, 7), 5);
    Due.is("status", x.status(), 0);
    Due.is("refused", x.stiff(8, 10), -1);
    Due.is("status", x.status(), -1);
    Due.is("as it was", x.stiff(8, 1), 7);
  }

  private static void plateAnswers() {
    Due.says("A PLATE of a JOINT has so many quarters (0 .. 4): how many it had. -1; -3 it is WELDED.");
    CornerWinds x = Due.tower();
    Due.is("welded", x.plate(47, 0), -3);
    Due.is("status", x.status(), -3);
    Due.bolt(x, 47);
    int[] to = {4, 0, 1, 2, 3, 3}, had = {0, 4, 0, 1, 2, 3};
    for (int i = 0; i < to.length; i++) Due.is("how many it had", x.plate(47, to[i]), had[i]);
    Due.is("status", x.status(), 0);
    Due.is("one less than none", x.plate(47, -1), -1);
    Due.is("one more than all", x.plate(47, 5), -1);
    Due.is("status", x.status(), -1);
    Due.is("how many it had", x.plate(47, 0), 3);
    x.step(0, 47, 0, 0, 0);
    Due.is("welded again", x.plate(47, 4), -3);
    Due.is("it has none", x.joint(47, 1), 0);
  }

  private static void jointAnswers() {
    Due.says("Of a JOINT 0 1 if BOLTED, else 0, 1 its quarters, 2 what it HOLDS, 3 STIFF. NONE.");
    CornerWinds x = Due.tower();
    Due.bolt(x, 47);
    x.plate(47, 3);
    x.stiff(47, 8);
    int[] welded = {0, 0, 1000, 5}, bolted = {1, 3, 775, 8};
    for (int what = 0; what < 4; what++) {
      Due.is("the first, " + what, x.joint(0, what), welded[what]);
      Due.is("the last, " + what, x.joint(47, what), bolted[what]);
    }
    int[][] wrong = {{-1, 0}, {48, 0}, {LEAST, 0}, {MOST, 0}, {0, -1}, {0, 4}, {0, LEAST}, {0, MOST}};
    for (int[] w : wrong) Due.is("joint of " + w[0] + ", " + w[1], x.joint(w[0], w[1]), -1);
  }

  private static void tensionCut() {
    Due.says("nothing GONE, times 1000, cut towards 0");
    CornerWinds x = sevens(1, 2);
    Due.is("cut", x.tension(0, 0, 1), 7000);
    Due.is("cut", x.tension(0, 4, 1), 14_001);
    Due.is("cut towards 0", x.tension(0, 1, 1), -42_004);
    Due.is("cut towards 0", x.tension(0, 5, 1), -35_003);
    x.tier(0, 1, 7);
    Due.is("less than a thousandth", x.tension(0, 0, 1), 0);
    x.tier(0, 1, 8);
    Due.is("below 0", x.tension(0, 0, 1), -999);
    x = plain(0);
    x.wind(0, 40, 1);
    Due.bolt(x, 0);
    x.terms(1, 1);
    Due.is("it goes", x.goes(0, 1, 0), 0);
    Due.is("but nothing is gone here", x.tension(0, 0, 1), 10_000);
    Due.is("nor for another one", x.tension(0, 4, 1), 10_000);
  }

  private static void tensionWithout() {
    Due.says("TENSION of a JOINT's BRACE by a WIND with (current 1), without CURRENT (0), nothing GONE, times 1000, cut towards 0. NOTHING (-1,000,000,000,000) without.");
    CornerWinds x = plain(5);
    Due.is("no wind at all", x.tension(0, 0, 1), NOTHING);
    x.wind(0, 40, 1);
    Due.is("the first joint", x.tension(0, 0, 0), 10_000);
    Due.is("the last joint", x.tension(0, 47, 1), 0);
    int[][] wrong = {{-1, 0, 1}, {1, 0, 1}, {LEAST, 0, 1}, {MOST, 0, 1}, {0, -1, 1}, {0, 48, 1}, {0, LEAST, 1}, {0, MOST, 1},
      {0, 0, -1}, {0, 0, 2}, {0, 0, LEAST}, {0, 0, MOST}};
    for (int[] w : wrong) Due.is("tension of " + w[0] + ", " + w[1] + ", " + w[2], x.tension(w[0], w[1], w[2]), NOTHING);
  }

  private static void goesByNumber() {
    Due.says("The i-th JOINT that is GONE by a WIND (i NONE: how many). NONE.");
    CornerWinds x = plain(0);
    Due.is("no wind at all", x.goes(0, 1, -1), -1);
    x.wind(0, 40, 1);
    Due.is("none goes: how many", x.goes(0, 1, -1), 0);
    Due.is("none goes: the first", x.goes(0, 1, 0), -1);
    x.terms(1, 1);
    Due.bolt(x, 4, 0);
    Due.is("how many", x.goes(0, 1, -1), 2);
    Due.is("the first", x.goes(0, 1, 0), 0);
    Due.is("the last", x.goes(0, 1, 1), 4);
    for (int i : new int[] {2, -2, LEAST, MOST}) Due.is("the one at " + i, x.goes(0, 1, i), -1);
    int[][] wrong = {{-1, 1}, {1, 1}, {LEAST, 1}, {MOST, 1}, {0, -1}, {0, 2}, {0, LEAST}, {0, MOST}};
    for (int[] w : wrong) {
      Due.is("how many by " + w[0] + ", " + w[1], x.goes(w[0], w[1], -1), -1);
      Due.is("the first by " + w[0] + ", " + w[1], x.goes(w[0], w[1], 0), -1);
    }
  }

  private static void fallsByTier() {
    Due.says("The lowest TIER that STANDS not, if it FALLS by a WIND; NONE.");
    for (int tier = 0; tier < 6; tier++) {
      CornerWinds x = Due.tower();
      Due.is("no wind at all", x.falls(0, 1), -1);
      Due.areaOn(x, tier, 1);
      x.terms(2, 100);
      x.wind(0, 8, 1);
      x.terms(1, 4);
      Due.bolt(x, 8 * tier + 2, 8 * tier + 3);
      Due.is("each just holds", x.falls(0, 1), -1);
      x.terms(1, 3);
      Due.is("they do not", x.falls(0, 1), tier);
      int[][] wrong = {{-1, 1}, {1, 1}, {LEAST, 1}, {MOST, 1}, {0, -1}, {0, 2}, {0, LEAST}, {0, MOST}};
      for (int[] w : wrong) Due.is("by " + w[0] + ", " + w[1], x.falls(w[0], w[1]), -1);
    }
  }
}
