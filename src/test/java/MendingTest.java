/** Promises 19 to 26: odds of a year, wishes, the best row of mending, the rule of faces and the leg's move. */
public final class MendingTest {
  public static void main(String[] args) {
    odds();
    greatestOdds();
    wish();
    best();
    oneBolt();
    bestAndLow();
    alike();
    nine();
    enough();
    move();
    Due.close("MendingTest");
  }

  /** Bolted pairs: east of tier 3, north of the tiers 4 and 5. A pair falls by the wind its way, with one mended it does not. */
  private static CornerWinds pairs() {
    CornerWinds x = Due.tower();
    x.terms(1, 1);
    x.terms(2, 100);
    Due.bolt(x, 26, 27, 32, 33, 40, 41);
    x.wind(0, 8, 10);
    x.wind(2, 8, 100);
    return x;
  }

  private static void odds() {
    CornerWinds x = Due.tower();
    Due.is("odds: no wind", x.odds(0), 0);
    x = pairs();
    Due.is("odds: both winds", x.odds(0), 11_000);
    Due.is("odds: nothing swims", x.odds(1), 0);
    Due.is("odds: what is not", x.odds(-1), -1);
    Due.is("odds: what is not", x.odds(3), -1);
    Due.is("odds: no status", x.status(), 0);
    x.plate(26, 4);
    Due.is("odds: the pair on the east is mended", x.odds(0), 10_000);
    Due.is("odds: 1 is not NONE", x.count(0), 2);
    // The pairs of tiers 4 and 5 have 120 and 40 on a joint, or half of that while it swims.
    x.terms(1, 60);
    x.terms(4, 50);
    Due.is("odds: it swims", x.odds(0), 0);
    Due.is("odds: worth of the weight", x.odds(1), 10_000);
    Due.is("odds: a spare source makes no less", x.odds(2), 0);
    x.terms(5, 30);
    Due.is("odds: it fails now and then", x.odds(0), 3000);
    Due.is("odds: worth of the weight", x.odds(1), 7000);
    Due.is("odds: a spare source, 9 for 30", x.odds(2), 2100);
    x.terms(5, 15);
    Due.is("odds: a spare source, cut, 2 for 15", x.odds(2), 1300);
    x.terms(5, 100);
    Due.is("odds: it always fails", x.odds(0), 10_000);
    Due.is("odds: then it is worth nothing", x.odds(1), 0);
    Due.is("odds: and a spare source is no better", x.odds(2), 0);
  }

  private static void greatestOdds() {
    CornerWinds x = new CornerWinds();
    x.terms(0, 100);
    x.terms(2, 100);
    for (int i = 0; i < 16; i++) x.wind(i % 8, 100, 1_000_000);
    Due.is("odds: the greatest", x.odds(0), 1_600_000_000);
  }

  private static void wish() {
    CornerWinds x = Due.tower();
    Due.is("wish: welded", x.wish(0), -3);
    Due.is("wish: status", x.status(), -3);
    Due.is("wish: no joint", x.wish(-1), -1);
    Due.is("wish: no joint", x.wish(48), -1);
    Due.bolt(x, 0, 1, 2, 3, 4, 5, 6, 7, 8, 47);
    for (int joint = 0; joint < 9; joint++) {
      Due.is("wish: how many", x.wish(joint), joint + 1);
      Due.is("wish: status", x.status(), 0);
      Due.is("wish: twice", x.wish(joint), -4);
      Due.is("wish: status", x.status(), -4);
    }
    Due.is("wish: a tenth", x.wish(47), -5);
    Due.is("wish: status", x.status(), -5);
    Due.is("wish: twice comes first", x.wish(8), -4);
    Due.is("step", x.step(0, 8, 0, 0, 0), 1);
    Due.is("wish: welded comes first", x.wish(8), -3);
    Due.is("wish: count", x.count(3), 9);
    Due.is("clear: how many", x.clear(), 9);
    Due.is("clear: none", x.clear(), 0);
    Due.is("clear: count", x.count(3), 0);
    Due.is("wish: anew", x.wish(47), 1);
  }

  private static void best() {
    CornerWinds x = pairs();
    Due.is("best: no wishes", x.best(), -1);
    Due.is("low: no wishes", x.low(), -1);
    Due.is("night: none yet", x.night(0), -1);
    x.wish(26);
    x.wish(41);
    x.wish(32);
    // The wind on the north needs two nights, the one on the east one.
    Due.is("best: risk", x.best(), 11_000 + 11_000 + 1000);
    long[] nights = {x.night(0), x.night(1), x.night(2)};
    Due.are("best: nights", nights, 1, 2, 0);
    Due.is("night: behind the last", x.night(3), -1);
    Due.is("night: ahead of the first", x.night(-1), -1);
    Due.is("low: least by how many", x.low(), 11_000 + 10_000 + 1000);
    Due.is("best: nothing is mended by it", x.joint(41, 1), 0);
    Due.is("best: nor is a wish gone", x.count(3), 3);
    Due.is("step: one is welded", x.step(1, 41, 0, 0, 0), 1);
    Due.is("best: one that is welded", x.best(), -1);
    Due.is("low: one that is welded", x.low(), -1);
    Due.is("night: the latest best stays", x.night(0), 1);
    Due.is("clear", x.clear(), 3);
    Due.is("night: it stays without wishes, too", x.night(2), 0);
    x.wish(32);
    Due.is("best: of one", x.best(), 11_000);
    Due.is("night: of one", x.night(0), 0);
    Due.is("night: no more than that", x.night(1), -1);
    Due.is("low: of one", x.low(), 11_000);
  }

  /** One bolt beside a weld that can't bear alone what both do. */
  private static void oneBolt() {
    CornerWinds x = Due.tower();
    x.terms(1, 1);
    x.terms(2, 100);
    x.wind(0, 8, 10);
    Due.bolt(x, 2, 47);
    x.wish(2);
    Due.is("best: a bolt beside a weld", x.best(), 1000);
    x.wish(47);
    Due.is("best: what does not matter is mended last", x.best(), 1000);
    Due.is("best: the bolt first", x.night(0), 0);
    x.clear();
    x.wish(47);
    x.wish(2);
    Due.is("best: wished the other way round", x.best(), 1000);
    Due.is("best: the bolt first", x.night(0), 1);
    Due.is("low: the same", x.low(), 1000);
  }

  private static void bestAndLow() {
    CornerWinds x = pairs();
    x.terms(5, 50);
    x.terms(4, 1);
    x.plate(40, 4);
    x.wish(26);
    x.wish(32);
    Due.is("best: one wind each", x.best(), 11_000 + 1000);
    Due.is("best: the worse one first", x.night(0), 1);
    Due.is("best: then the other", x.night(1), 0);
    Due.is("low: the same", x.low(), 12_000);
    x.plate(32, 4);
    Due.is("best: one that is whole already", x.best(), 1000);
    Due.is("best: it comes last", x.night(0), 0);
  }

  private static void alike() {
    CornerWinds x = pairs();
    x.wish(27);
    x.wish(26);
    x.wish(33);
    x.wish(32);
    // Either one of a pair is enough, and the pair of tier 5 keeps the wind on the north falling.
    Due.is("best: alike ones", x.best(), 11_000 + 10_000 + 10_000 + 10_000);
    long[] nights = {x.night(0), x.night(1), x.night(2), x.night(3)};
    Due.are("best: the first as rows", nights, 0, 1, 2, 3);
    x = Due.tower();
    Due.bolt(x, 5, 4, 3);
    x.wish(5);
    x.wish(3);
    x.wish(4);
    Due.is("best: nothing falls", x.best(), 0);
    nights = new long[] {x.night(0), x.night(1), x.night(2)};
    Due.are("best: as they were wished", nights, 0, 1, 2);
    Due.is("low: nothing falls", x.low(), 0);
  }

  private static void nine() {
    CornerWinds x = pairs();
    Due.bolt(x, 0, 1, 2);
    int[] joints = {0, 1, 2, 26, 27, 32, 33, 40, 41};
    for (int joint : joints) x.wish(joint);
    x.wind(4, 8, 1000);
    // Mended on the east, it falls by the other wind alone; that one takes the pairs of two tiers.
    long risk = x.best();
    Due.is("best: of nine is not below low", risk >= x.low() ? 1 : 0, 1);
    boolean[] had = new boolean[9];
    for (int night = 0; night < 9; night++) {
      int wish = x.night(night);
      Due.is("best: each wish once", wish >= 0 && wish < 9 && !had[wish] ? 1 : 0, 1);
      had[wish] = true;
    }
    long sum = 0;
    for (int night = 0; night < 9; night++) {
      sum += x.odds(0);
      x.plate(joints[x.night(night)], 4);
    }
    Due.is("best: its row has that risk", sum, risk);
  }

  private static void enough() {
    CornerWinds x = new CornerWinds();
    Due.is("enough: no wind", x.enough(47), 1);
    x.wind(1, 1, 1);
    Due.is("enough: none on a face", x.enough(0), 0);
    Due.is("enough: not even where it pulls less", x.enough(1), 0);
    x.wind(0, 1, 1);
    Due.is("enough: not for the north", x.enough(0), 0);
    Due.is("enough: nor for the east", x.enough(3), 1);
    Due.is("enough: no joint", x.enough(-1), -1);
    Due.is("enough: no joint", x.enough(48), -1);
    x.terms(3, 10);
    Due.is("enough: without an upright", x.enough(0), 1);
    Due.is("enough: that wind does not push the east", x.enough(2), 0);
    x.wind(2, 1, 1);
    Due.is("enough: the other does", x.enough(2), 1);
    exactly();
  }

  /** 10 on the face is as much as 7 and 3 sevenths across an edge; the rule is about more, however little. */
  private static void exactly() {
    CornerWinds x = new CornerWinds();
    x.terms(2, 0);
    x.wind(0, 70, 1);
    x.wind(1, 100, 1);
    Due.is("enough: just as much", x.enough(0), 1);
    Due.is("tension: alike", x.tension(0, 0, 1) - x.tension(1, 0, 1), 0);
    Due.is("enough: less on the right", x.enough(1), 1);
    x.tier(0, 1, 100_000);
    Due.is("enough: dead weight is alike for all", x.enough(0), 1);
    x.stiff(1, 6);
    Due.is("enough: a twist across makes it more", x.enough(2), 0);
  }

  /** All winds on a face and one across an edge, the leg where it is told. */
  private static CornerWinds blown(int leg) {
    CornerWinds x = new CornerWinds();
    x.terms(3, leg);
    x.wind(3, 9, 1);
    for (int way = 0; way < 8; way += 2) x.wind(way, 9, 1);
    return x;
  }

  private static void move() {
    CornerWinds x = new CornerWinds();
    Due.is("move: no wind", x.move(), 0);
    x.terms(3, 7);
    Due.is("move: not below what it is", x.move(), 7);
    x.wind(3, 9, 1);
    Due.is("move: none", x.move(), -1);
    int least = blown(0).move();
    Due.is("move: there is one", least > 0 && least < 10 ? 1 : 0, 1);
    for (int leg = 0; leg <= 10; leg++) {
      x = blown(leg);
      boolean all = true;
      for (int joint = 0; joint < 48; joint++) all &= x.enough(joint) == 1;
      Due.is("move: enough for all", all ? 1 : 0, leg >= least ? 1 : 0);
      Due.is("move: from here", x.move(), Math.max(leg, least));
    }
    Due.is("move: the leg stays", x.terms(3, 0), 10);
  }
}
