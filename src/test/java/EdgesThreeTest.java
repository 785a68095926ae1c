/** Terms III and promises 19 to 26: for each sentence that names an edge a test at the edge and one beyond it. */
public final class EdgesThreeTest {
  private static final int LEAST = Integer.MIN_VALUE, MOST = Integer.MAX_VALUE;

  public static void main(String[] args) {
    oddsOfAYear();
    leastSwim();
    greatestOdds();
    worth();
    spare();
    belowNought();
    oddsWithout();
    nineWishes();
    wishNumbers();
    clear();
    riskOfARow();
    oneNight();
    worseMended();
    greatestRisk();
    lastWindAlone();
    bestOfAlikeOnes();
    wholePlate();
    bestWithout();
    nights();
    low();
    lowWithout();
    enough();
    enoughByLittle();
    enoughWithout();
    move();
    moveWithout();
    moveAsksAlone();
    Due.close("EdgesThreeTest");
  }

  /** Falls by its wind without current, and not with it. */
  private static CornerWinds swimming(int odds) {
    CornerWinds x = Due.tower();
    Due.areaOn(x, 3, 1);
    x.terms(1, 3);
    x.terms(2, 100);
    x.terms(4, 50);
    x.wind(2, 8, odds);
    Due.bolt(x, 24, 25);
    return x;
  }

  private static void oddsOfAYear() {
    Due.says("ODDS of a year: the sum of ODDS of the WINDS by which it FALLS, with CURRENT times 100 less FAILS, without times FAILS, in hundred-millionths.");
    CornerWinds x = swimming(7);
    int[][] due = {{0, 0}, {1, 7}, {50, 350}, {99, 693}, {100, 700}};
    for (int[] d : due) {
      x.terms(5, d[0]);
      Due.is("fails " + d[0], x.odds(0), d[1]);
    }
    x.wind(2, 16, 1000);
    for (int[] d : due) {
      x.terms(5, d[0]);
      Due.is("one more, that falls always, fails " + d[0], x.odds(0), d[1] + 100_000);
    }
    x.wind(4, 16, 50_000);
    Due.is("one by which it does not fall", x.odds(0), 700 + 100_000);
    x = new CornerWinds();
    Due.is("no wind", x.odds(0), 0);
    x.terms(4, 50);
    x.terms(5, 100);
    x.wind(0, 1, 1000);
    for (int what = 0; what < 3; what++) Due.is("a first one by which it never falls, " + what, x.odds(what), 0);
  }

  /** While it swims by a hundredth 99.495 on a joint that holds 100, 100.5 without current. */
  private static void leastSwim() {
    Due.says("with CURRENT times 100 less FAILS, without times FAILS");
    CornerWinds x = Due.tower();
    Due.areaOn(x, 3, 3);
    x.terms(1, 100);
    x.terms(2, 100);
    x.wind(2, 67, 7);
    Due.bolt(x, 24, 25);
    x.terms(5, 40);
    x.terms(4, 1);
    Due.is("swim 1: it falls without current", x.odds(0), 280);
    x.wish(24);
    Due.is("best", x.best(), 280);
    Due.is("low", x.low(), 280);
    x.terms(4, 0);
    Due.is("swim 0: it falls always", x.odds(0), 700);
    Due.is("best", x.best(), 700);
    x.terms(4, 1);
    Due.is("best asked again", x.best(), 280);
    x.terms(1, 101);
    Due.is("best where it does not fall", x.best(), 0);
    Due.is("odds where it does not fall", x.odds(0), 0);
  }

  private static void greatestOdds() {
    Due.says("in hundred-millionths");
    CornerWinds x = swimming(1_000_000);
    for (int i = 0; i < 15; i++) x.wind(2, 8, 1_000_000);
    x.terms(5, 100);
    Due.is("all of them", x.odds(0), 1_600_000_000);
    Due.is("worth", x.odds(1), 0);
    Due.is("spare", x.odds(2), 0);
    x.terms(5, 0);
    Due.is("none of them", x.odds(0), 0);
    Due.is("worth", x.odds(1), 1_600_000_000);
    x.terms(5, 50);
    Due.is("spare", x.odds(2), 400_000_000);
  }

  private static void worth() {
    Due.says("WORTH of the weight: how much more they would be without CURRENT always.");
    CornerWinds x = swimming(7);
    int[][] due = {{0, 700}, {1, 693}, {99, 7}, {100, 0}};
    for (int[] d : due) {
      x.terms(5, d[0]);
      Due.is("fails " + d[0], x.odds(1), d[1]);
    }
    x.terms(5, 0);
    x.terms(4, 0);
    Due.is("nothing swims", x.odds(1), 0);
    Due.is("it falls always", x.odds(0), 700);
  }

  private static void spare() {
    Due.says("SPARE: a second source: FAILS becomes FAILS times itself through 100, cut: how much less they are.");
    CornerWinds x = swimming(10);
    // FAILS 9 becomes 0.81, 10 becomes 1, 14 becomes 1.96, 15 becomes 2.25, 99 becomes 98.01.
    int[][] due = {{0, 0}, {1, 10}, {9, 90}, {10, 90}, {14, 130}, {15, 130}, {50, 250}, {99, 10}, {100, 0}};
    for (int[] d : due) {
      x.terms(5, d[0]);
      Due.is("fails " + d[0], x.odds(2), d[1]);
    }
    x.terms(5, 50);
    Due.is("asking changes nothing", x.odds(0), 500);
  }

  /** Half of the wind takes joint 6 behind 5 and 7, all of it joint 1: then it stands. So it falls with current alone. */
  private static void belowNought() {
    CornerWinds x = Due.tower();
    Due.areaOn(x, 0, 20);
    x.terms(1, 1);
    x.terms(0, 130);
    x.terms(2, 39);
    x.terms(4, 45);
    x.wind(5, 100, 4);
    Due.bolt(x, 6);
    x.plate(6, 1);
    Due.are("with current", Due.gone(x, 0, 1), 5, 7, 6);
    Due.are("without current", Due.gone(x, 0, 0), 5, 7, 1);
    Due.is("it falls with current", x.falls(0, 1), 0);
    Due.is("it stands without", x.falls(0, 0), -1);
    int[][] due = {{0, 400, -400, 0}, {1, 396, -396, -4}, {50, 200, -200, -100}, {100, 0, 0, 0}};
    for (int[] d : due) {
      x.terms(5, d[0]);
      Due.says("ODDS of a year: the sum of ODDS of the WINDS by which it FALLS, with CURRENT times 100 less FAILS");
      Due.is("fails " + d[0], x.odds(0), d[1]);
      Due.says("how much more they would be without CURRENT always");
      Due.is("less is below 0, fails " + d[0], x.odds(1), d[2]);
      Due.says("FAILS becomes FAILS times itself through 100, cut: how much less they are");
      Due.is("more is below 0, fails " + d[0], x.odds(2), d[3]);
    }
  }

  private static void oddsWithout() {
    Due.says("ODDS of a year (what 0), WORTH (1), what SPARE makes less (2). NONE.");
    CornerWinds x = swimming(7);
    for (int what : new int[] {-1, 3, LEAST, MOST}) Due.is("odds of " + what, x.odds(what), -1);
    x.terms(5, 50);
    int[] due = {350, 350, 175};
    for (int what = 0; what < 3; what++) Due.is("odds of " + what, x.odds(what), due[what]);
  }

  private static void nineWishes() {
    Due.says("MENDING: JOINTS WISHED, 9 at most, BOLTED: one a NIGHT gets its whole PLATE, in a row.");
    CornerWinds x = Due.tower();
    Due.bolt(x, 0, 6, 12, 18, 24, 30, 36, 42, 47, 46);
    int[] joints = {0, 6, 12, 18, 24, 30, 36, 42, 47};
    for (int i = 0; i < 9; i++) Due.is("how many are wished", x.wish(joints[i]), i + 1);
    Due.is("a tenth", x.wish(46), -5);
    Due.is("count", x.count(3), 9);
    Due.is("best of nine", x.best(), 0);
    for (int night = 0; night < 9; night++) Due.is("night " + night, x.night(night), night);
    Due.is("no tenth night", x.night(9), -1);
    Due.is("cleared", x.clear(), 9);
    Due.is("then there is room", x.wish(46), 1);
  }

  private static void wishNumbers() {
    Due.says("WISHED is a JOINT: how many are. -1; -3 it is WELDED; -4; -5.");
    CornerWinds x = Due.tower();
    Due.bolt(x, 0, 47);
    for (int joint : new int[] {-1, 48, LEAST, MOST}) Due.is("wish for " + joint, x.wish(joint), -1);
    Due.is("status", x.status(), -1);
    Due.is("welded", x.wish(1), -3);
    Due.is("status", x.status(), -3);
    Due.is("the last joint", x.wish(47), 1);
    Due.is("status", x.status(), 0);
    Due.is("twice", x.wish(47), -4);
    Due.is("status", x.status(), -4);
    Due.is("the first joint", x.wish(0), 2);
    Due.is("twice", x.wish(47), -4);
    x.plate(47, 4);
    Due.is("twice, though it is mended", x.wish(47), -4);
    Due.is("count", x.count(3), 2);
    x.clear();
    Due.is("one that is mended", x.wish(47), 1);
    x.step(0, 0, 0, 0, 0);
    Due.is("one that is welded by now", x.wish(0), -3);
  }

  private static void clear() {
    Due.says("No WISHES: how many there were.");
    CornerWinds x = Due.tower();
    Due.is("none", x.clear(), 0);
    Due.bolt(x, 4);
    x.wish(4);
    Due.is("one", x.clear(), 1);
    Due.is("none again", x.clear(), 0);
    Due.is("count", x.count(3), 0);
    Due.is("wished anew is not twice", x.wish(4), 1);
  }

  /** Bolted pairs: east of tier 3, north of tiers 4 and 5. Each falls by the wind its way (10, 100) unless one of it is mended. */
  private static CornerWinds pairs() {
    CornerWinds x = Due.tower();
    x.terms(1, 1);
    x.terms(2, 100);
    Due.bolt(x, 26, 27, 32, 33, 40, 41);
    x.wind(0, 8, 10);
    x.wind(2, 8, 100);
    return x;
  }

  private static void riskOfARow() {
    Due.says("RISK of a row: the sum of ODDS of a year as it is in each NIGHT, ahead of its mending (as many as are WISHED). BEST: the least RISK");
    CornerWinds x = pairs();
    x.wish(26);
    Due.is("one night: ahead of its mending", x.best(), 11_000);
    x.wish(33);
    Due.is("two nights, the second with the first one mended", x.best(), 11_000 + 10_000);
    x.wish(40);
    Due.is("three nights", x.best(), 11_000 + 11_000 + 1000);
    long[] nights = {x.night(0), x.night(1), x.night(2)};
    Due.are("the wind to the north first, both tiers", nights, 1, 2, 0);
    x.wish(32);
    Due.is("a fourth night, of nothing more", x.best(), 11_000 + 11_000 + 1000);
    x.terms(5, 37);
    Due.is("alike with and without current", x.best(), 23_000);
    x = swimming(7);
    x.terms(5, 50);
    x.wish(24);
    Due.is("without current alone", x.best(), 350);
    x.wish(25);
    Due.is("one of both is enough", x.best(), 350);
    x.terms(5, 100);
    Due.is("asked anew", x.best(), 700);
    x.tier(3, 1, 100);
    Due.is("held down by now", x.best(), 0);
    Due.is("held down by now", x.low(), 0);
    eachTier();
  }

  /** A bolt beside a weld: the weld can't bear alone what both do. It is the one joint that goes by itself. */
  private static void eachTier() {
    for (int tier = 0; tier < 6; tier++) {
      for (int side = 0; side < 8; side += 7) {
        CornerWinds x = Due.tower();
        Due.areaOn(x, tier, 20);
        for (int t = 0; t < tier; t++) x.tier(t, 1, 100_000);
        x.terms(1, 1);
        x.terms(2, 100);
        // North of a tier by way 2, west by way 4: 1600 on its face, 800 on a brace.
        x.wind(side == 0 ? 2 : 4, 80, 10);
        Due.bolt(x, 8 * tier + side);
        x.wish(8 * tier + side);
        Due.is("tier " + tier + ", joint " + side, x.best(), 1000);
        Due.is("tier " + tier + ", joint " + side + ", low", x.low(), 1000);
        Due.bolt(x, 8 * tier + 2);
        x.wish(8 * tier + 2);
        Due.is("tier " + tier + ", joint " + side + " and another one", x.best(), 1000);
        Due.is("it is mended first", x.night(0), 0);
        Due.is("then the other one", x.night(1), 1);
      }
    }
  }

  /** One night has the risk of a year as it is now, whichever joint is bolted and however it blows. */
  private static void oneNight() {
    Due.says("as it is in each NIGHT, ahead of its mending (as many as are WISHED)");
    int fell = 0;
    for (int joint = 0; joint < 48; joint++) {
      for (int way = 0; way < 8; way++) {
        CornerWinds x = Due.tower();
        int tier = joint / 8;
        Due.areaOn(x, tier, 20);
        for (int t = 0; t < tier; t++) x.tier(t, 1, 100_000);
        x.terms(0, 1180);
        x.terms(1, 295);
        x.terms(2, 99);
        x.wind(way, 100, 1);
        Due.bolt(x, joint);
        x.wish(joint);
        int due = x.falls(0, 1) == -1 ? 0 : 100;
        fell += due / 100;
        Due.is("joint " + joint + ", way " + way, x.best(), due);
        Due.is("joint " + joint + ", way " + way + ", low", x.low(), due);
        Due.is("joint " + joint + ", way " + way + ", odds", x.odds(0), due);
      }
    }
    Due.is("some fall and some do not", fell > 48 && fell < 300 ? 1 : 0, 1);
  }

  /** Mended, the weld of joint 5 makes it fall by the wind to the west: it is better mended last. */
  private static void worseMended() {
    Due.says("RISK of a row: the sum of ODDS of a year as it is in each NIGHT, ahead of its mending");
    CornerWinds x = Due.tower();
    Due.areaOn(x, 0, 20);
    x.terms(1, 1);
    x.terms(0, 420);
    x.terms(2, 38);
    x.stiff(5, 3);
    x.wind(4, 100, 1);
    Due.bolt(x, 5, 45);
    x.wish(5);
    Due.is("ahead of its mending it stands", x.best(), 0);
    Due.is("low", x.low(), 0);
    x.wish(45);
    Due.is("best", x.best(), 0);
    Due.is("the other one first", x.night(0), 1);
    Due.is("that one last", x.night(1), 0);
    x.plate(5, 4);
    Due.is("behind its mending it falls", x.odds(0), 100);
    Due.is("best of what is mended", x.best(), 200);
    Due.is("alike: the first", x.night(0), 0);
  }

  private static void greatestRisk() {
    Due.says("the sum of ODDS of a year as it is in each NIGHT");
    CornerWinds x = Due.tower();
    x.terms(1, 1);
    x.terms(0, 1);
    x.terms(2, 100);
    for (int i = 0; i < 16; i++) x.wind(i % 8, 100, 1_000_000);
    Due.bolt(x, 0, 1, 2, 3, 4, 5, 6, 7, 8);
    for (int joint = 0; joint < 9; joint++) x.wish(joint);
    Due.is("nine nights of the greatest odds", x.best(), 14_400_000_000L);
    Due.is("low", x.low(), 14_400_000_000L);
    for (int night = 0; night < 9; night++) Due.is("all rows are alike", x.night(night), night);
    x.terms(4, 1);
    x.terms(5, 50);
    Due.is("with and without current", x.best(), 14_400_000_000L);
    Due.is("low with and without current", x.low(), 14_400_000_000L);
  }

  private static void lastWindAlone() {
    Due.says("the sum of ODDS of the WINDS by which it FALLS");
    for (int many = 0; many < 16; many++) {
      CornerWinds x = Due.tower();
      Due.areaOn(x, 3, 1);
      x.terms(1, 3);
      x.terms(2, 100);
      x.terms(4, 50);
      x.terms(5, 10);
      for (int i = 0; i < many; i++) x.wind(2, 1, 1);
      x.wind(2, 8, 1000);
      for (int i = many + 1; i < 16; i++) x.wind(2, 1, 1);
      Due.bolt(x, 24, 25);
      x.wish(25);
      Due.is("wind " + many + " alone, without current", x.best(), 10_000);
      Due.is("odds", x.odds(0), 10_000);
      x.terms(4, 0);
      Due.is("wind " + many + " alone", x.best(), 100_000);
      Due.is("odds", x.odds(0), 100_000);
      x.terms(1, 4);
      Due.is("none", x.best(), 0);
    }
  }

  private static void bestOfAlikeOnes() {
    Due.says("of alike ones the first as rows (of WISHES by their numbers)");
    CornerWinds x = pairs();
    // Either joint of a pair is as good; 33 and 32, 41 and 40 are wished the higher first.
    int[] joints = {27, 41, 33, 40, 32, 26};
    for (int joint : joints) x.wish(joint);
    Due.is("risk", x.best(), 11_000 + 11_000 + 1000);
    long[] nights = new long[6];
    for (int night = 0; night < 6; night++) nights[night] = x.night(night);
    Due.are("the first of the alike rows", nights, 1, 2, 0, 3, 4, 5);
    x.clear();
    for (int i = 5; i >= 0; i--) x.wish(joints[i]);
    Due.is("risk", x.best(), 11_000 + 11_000 + 1000);
    for (int night = 0; night < 6; night++) nights[night] = x.night(night);
    Due.are("wished the other way round", nights, 1, 2, 0, 3, 4, 5);
    x = pairs();
    x.wish(26);
    x.wish(27);
    Due.is("either one", x.best(), 11_000 + 10_000);
    Due.is("the first", x.night(0), 0);
    x = pairs();
    x.wish(32);
    x.wish(33);
    x.wish(26);
    Due.is("one of three that matters", x.best(), 11_000 + 10_000 + 10_000);
    Due.is("it comes first", x.night(0), 2);
    Due.is("then the first of the others", x.night(1), 0);
  }

  private static void wholePlate() {
    Due.says("one a NIGHT gets its whole PLATE");
    CornerWinds x = pairs();
    // East of tier 3 has 480 on a face: 240 on each of two, 480 on one. The tiers below have more, so they are held down.
    for (int t = 0; t < 3; t++) x.tier(t, 1, 100_000);
    x.terms(0, 480);
    x.wish(26);
    x.wish(40);
    Due.is("a whole plate just holds it", x.best(), 11_000 + 10_000);
    x.terms(0, 479);
    Due.is("one less does not", x.best(), 11_000 + 11_000);
    x.terms(0, 480);
    x.plate(26, 3);
    Due.is("three quarters do not", x.odds(0), 11_000);
    Due.is("they become four", x.best(), 11_000 + 10_000);
    x.plate(26, 4);
    Due.is("it is whole already", x.best(), 10_000 + 10_000);
    Due.is("nothing is mended by asking", x.joint(40, 1), 0);
  }

  private static void bestWithout() {
    Due.says("BEST, kept as the latest: RISK. NONE (no WISHES, one that is WELDED by now, too).");
    CornerWinds x = pairs();
    Due.is("no wishes", x.best(), -1);
    x.wish(26);
    x.wish(32);
    Due.is("two", x.best(), 21_000);
    x.step(0, 26, 0, 0, 0);
    Due.is("the first is welded by now", x.best(), -1);
    x.step(0, 26, 1, 0, 0);
    Due.is("it is bolted again", x.best(), 21_000);
    x.step(0, 32, 0, 0, 0);
    Due.is("the last is welded by now", x.best(), -1);
    x.clear();
    Due.is("no wishes any more", x.best(), -1);
    x.wish(26);
    Due.is("the welded one is not wished any more", x.best(), 11_000);
    x = Due.tower();
    Due.bolt(x, 0);
    x.wish(0);
    Due.is("no winds", x.best(), 0);
  }

  private static void nights() {
    Due.says("The WISH of a NIGHT in the latest BEST; NONE.");
    CornerWinds x = pairs();
    Due.is("no best yet", x.night(0), -1);
    x.wish(26);
    x.wish(32);
    x.wish(40);
    Due.is("still none", x.night(0), -1);
    x.low();
    Due.is("low is no best", x.night(0), -1);
    x.best();
    int[] due = {1, 2, 0};
    for (int night = 0; night < 3; night++) Due.is("night " + night, x.night(night), due[night]);
    for (int night : new int[] {-1, 3, 8, 9, LEAST, MOST}) Due.is("night " + night, x.night(night), -1);
    x.clear();
    Due.is("the latest stays without wishes", x.night(0), 1);
    x.best();
    Due.is("none is no best", x.night(0), 1);
    x.wish(40);
    x.best();
    Due.is("a shorter one", x.night(0), 0);
    Due.is("has no second night", x.night(1), -1);
  }

  private static void low() {
    Due.says("LOW: the least that any row can have is not below: the sum of ODDS with the 0, 1, 2 .. WISHED JOINTS mended that make each least.");
    CornerWinds x = pairs();
    x.wish(26);
    Due.is("of one: with none mended", x.low(), 11_000);
    x.wish(33);
    Due.is("of two: with none, with the one that makes it least", x.low(), 11_000 + 10_000);
    x.wish(40);
    // None: both winds. One: the east one mended. Two: the north ones mended, which no row can have behind that.
    Due.is("of three", x.low(), 11_000 + 10_000 + 1000);
    Due.is("which no row has", x.best(), 11_000 + 11_000 + 1000);
    x.wish(32);
    Due.is("of four: with three all is well", x.low(), 11_000 + 10_000 + 1000);
  }

  private static void lowWithout() {
    Due.says("LOW; NONE (as best()).");
    CornerWinds x = pairs();
    Due.is("no wishes", x.low(), -1);
    x.wish(26);
    x.wish(32);
    x.step(0, 32, 0, 0, 0);
    Due.is("one that is welded by now", x.low(), -1);
    x.step(0, 32, 1, 0, 0);
    Due.is("it is bolted again", x.low(), 21_000);
    x.clear();
    Due.is("no wishes any more", x.low(), -1);
    x = Due.tower();
    Due.bolt(x, 0);
    x.wish(0);
    Due.is("no winds", x.low(), 0);
  }

  private static void enough() {
    Due.says("ENOUGH is the rule of faces for a JOINT: no WIND across an edge, with CURRENT, gives it more TENSION than the greatest of those on a face do (with no WIND on a face: not so, if there is one across an edge).");
    CornerWinds x = new CornerWinds();
    x.terms(2, 0);
    Due.is("no winds", x.enough(0), 1);
    x.wind(1, 100, 1);
    Due.is("none on a face", x.enough(0), 0);
    Due.is("though it pulls the right ones the other way", x.enough(1), 0);
    x.wind(0, 69, 1);
    Due.is("69 on a face is less than 100 across", x.enough(0), 0);
    x.wind(0, 70, 1);
    Due.is("70 on a face is just as much", x.enough(0), 1);
    Due.is("the east is not pulled by that", x.enough(2), 0);
    x.wind(2, 70, 1);
    Due.is("it is by this", x.enough(2), 1);
    x.wind(5, 100, 1);
    Due.is("the other way the right ones are pulled", x.enough(1), 0);
    x.wind(4, 70, 1);
    Due.is("just as much", x.enough(1), 1);
    x = new CornerWinds();
    x.wind(0, 1, 1);
    Due.is("none across an edge", x.enough(0), 1);
    for (int joint = 0; joint < 48; joint++) Due.is("none across an edge, joint " + joint, x.enough(joint), 1);
  }

  /** A brace of one tenth of its face; 7 on a face and 10 across an edge put just as much on it, but for the upright. */
  private static CornerWinds nearly(int lever) {
    CornerWinds x = new CornerWinds();
    Due.areaOn(x, 0, 1);
    x.stiff(0, 1);
    x.stiff(1, 9);
    x.terms(2, lever);
    x.terms(4, 50);
    x.wind(0, 7, 1);
    x.wind(1, 10, 1);
    x.wind(2, 7, 1);
    return x;
  }

  private static void enoughByLittle() {
    Due.says("gives it more TENSION than the greatest of those on a face do");
    CornerWinds x = nearly(0);
    Due.is("just as much", x.enough(0), 1);
    x.terms(2, 1);
    x.terms(3, 9);
    Due.is("on a face", x.tension(0, 0, 1), 175);
    Due.is("across an edge it is alike if it is cut", x.tension(1, 0, 1), 175);
    Due.is("it is more all the same", x.enough(0), 0);
    x.terms(3, 10);
    Due.is("not with the leg at the corner", x.enough(0), 1);
    Due.says("no WIND across an edge, with CURRENT, gives it more TENSION");
    x.tier(0, 1, 100_000);
    Due.is("tension far below 0, just as much", x.enough(0), 1);
    x.terms(3, 9);
    Due.is("more, however little", x.enough(0), 0);
  }

  private static void enoughWithout() {
    Due.says("Whether the rule of faces is ENOUGH for a JOINT: 1, 0. NONE.");
    CornerWinds x = new CornerWinds();
    for (int joint : new int[] {-1, 48, LEAST, MOST}) Due.is("enough for " + joint, x.enough(joint), -1);
    Due.is("the first joint", x.enough(0), 1);
    Due.is("the last joint", x.enough(47), 1);
    x.wind(3, 1, 1);
    Due.is("the first joint", x.enough(0), 0);
    Due.is("the last joint", x.enough(47), 0);
  }

  private static void move() {
    Due.says("MOVE: the least LEG not below what it is for which it is ENOUGH for all JOINTS.");
    CornerWinds x = nearly(1);
    Due.is("at the corner alone", x.move(), 10);
    x.terms(3, 9);
    Due.is("from one ahead of it", x.move(), 10);
    x.terms(3, 10);
    Due.is("from there", x.move(), 10);
    x = nearly(1);
    x.wind(2, 100, 1);
    x.terms(3, 9);
    for (int joint = 0; joint < 48; joint++) Due.is("the first joint alone wants it, " + joint, x.enough(joint), joint == 0 ? 0 : 1);
    Due.is("it is moved for that one", x.move(), 10);
    x = nearly(0);
    Due.is("where it is", x.move(), 0);
    x.terms(3, 5);
    Due.is("not below what it is", x.move(), 5);
    Due.is("the leg stays", x.terms(3, 0), 5);
    x.stiff(47, 9);
    Due.is("the highest tier bears nothing", x.move(), 0);
    x.tier(5, 0, 1);
    Due.is("for all joints: the last one's tier twists", x.move(), -1);
    x = new CornerWinds();
    x.wind(0, 10, 1);
    x.wind(1, 10, 1);
    x.wind(2, 10, 1);
    int least = x.move();
    Due.is("the lowest tier: 150 on a face, 105 and 7.35 times 10 less the leg across", least, 4);
    x.terms(3, 3);
    Due.is("one ahead of it", x.enough(0), 0);
    x.terms(3, 4);
    Due.is("there", x.enough(0), 1);
    for (int joint = 0; joint < 48; joint++) Due.is("for all joints, " + joint, x.enough(joint), 1);
  }

  private static void moveWithout() {
    Due.says("MOVE; NONE.");
    CornerWinds x = new CornerWinds();
    Due.is("no winds", x.move(), 0);
    x.terms(3, 10);
    Due.is("no winds", x.move(), 10);
    x.wind(7, 1, 1);
    Due.is("none on a face", x.move(), -1);
    x.terms(3, 0);
    Due.is("from no leg", x.move(), -1);
    for (int way = 0; way < 8; way += 2) x.wind(way, 1, 1);
    Due.is("now there is one", x.move() >= 0 ? 1 : 0, 1);
  }

  private static void moveAsksAlone() {
    Due.says("MOVE: the least LEG not below what it is for which it is ENOUGH for all JOINTS.");
    CornerWinds x = new CornerWinds();
    x.wind(0, 10, 1);
    x.wind(1, 10, 1);
    x.wind(2, 10, 1);
    long pull = x.tension(1, 2, 1);
    Due.is("it would have to move", x.move(), 4);
    Due.is("but it is not moved: a brace bears what it did", x.tension(1, 2, 1), pull);
    Due.is("nor is it enough now", x.enough(0), 0);
    Due.is("asked again", x.move(), 4);
    Due.is("the leg is where it was", x.terms(3, 0), 0);
    x.wind(5, 100, 1);
    x.terms(3, 2);
    Due.is("none will do", x.move(), -1);
    Due.is("the leg is where it was", x.terms(3, 0), 2);
  }
}
