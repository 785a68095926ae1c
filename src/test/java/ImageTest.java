/** Promises 38 to 41: images, going back to them, counts and the status. */
public final class ImageTest {
  public static void main(String[] args) {
    refusals();
    allThatIsKept();
    whatIsNotKept();
    two();
    texts();
    status();
    Due.close("ImageTest");
  }

  private static void refusals() {
    CornerWinds x = new CornerWinds();
    Due.is("back: not kept", x.back(0), -2);
    Due.is("back: status", x.status(), -2);
    Due.is("back: no image", x.back(2), -1);
    Due.is("back: no image", x.back(-1), -1);
    Due.is("image: no image", x.image(2), -1);
    Due.is("image: no image", x.image(-1), -1);
    Due.is("image: status", x.status(), -1);
    Due.is("image", x.image(1), 0);
    Due.is("image: status", x.status(), 0);
    Due.is("back: the other was not kept", x.back(0), -2);
    Due.is("back", x.back(1), 0);
    Due.is("back: status", x.status(), 0);
  }

  /** Changes all that can be changed, by numbers of its own. */
  private static void fill(CornerWinds x, int n) {
    x.stiff(5, 1 + n);
    x.tier(2, 0, 3 + n);
    x.tier(2, 1, 30 + n);
    int[] terms = {2000, 20, 22, 3, 4, 5, 6, 7, 8};
    for (int what = 0; what < 9; what++) x.terms(what, terms[what] + n);
    x.wind(n, 10 + n, 100 + n);
    Due.rule(x, "need " + n + "; look age*" + n + "; edge");
    x.step(40 + n, 9 + n, 1, n, x.count(1) - 1);
    x.plate(9 + n, n);
    x.find(n, n, 50 + n);
    x.street(n, n, n);
    Due.row(x, 1, 10 + n);
    x.tower(9 + n, n, n, n, 1);
  }

  private static long[] seen(CornerWinds x) {
    long[] s = new long[600];
    int i = 0;
    for (int joint = 0; joint < 48; joint++) for (int what = 0; what < 4; what++) s[i++] = x.joint(joint, what);
    for (int what : new int[] {0, 1, 2, 4, 5, 6}) s[i++] = x.count(what);
    for (int step = 0; step < 4; step++) for (int what = 0; what < 6; what++) s[i++] = x.drawing(step, what);
    for (int wind = 0; wind < 4; wind++) for (int joint = 16; joint < 24; joint++) s[i++] = x.tension(wind, joint, wind % 2);
    for (int p = 0; p < 8; p++) for (int f = 0; f < 8; f++) s[i++] = x.knew(p, f);
    for (int limit = 0; limit <= 100; limit += 5) s[i++] = x.call(limit);
    for (int text = 0; text < 4; text++) s[i++] = x.first(text);
    for (int text = 0; text < 4; text++) s[i++] = x.need(text, 9, 50);
    for (int what = 0; what < 3; what++) s[i++] = x.odds(what);
    s[i++] = x.saw();
    s[i++] = x.move();
    s[i++] = x.when();
    s[i++] = x.under(0, 1);
    return s;
  }

  /** A new object behind so many of these doings: to see all of one takes most of its 512 calls. */
  private static CornerWinds behind(int doings) {
    CornerWinds x = new CornerWinds();
    Runnable[] all = {() -> x.image(1), () -> fill(x, 1), () -> x.image(0), () -> fill(x, 2), () -> Due.is("back", x.back(0), 0),
      () -> fill(x, 2), () -> Due.is("back: again", x.back(0), 0), () -> Due.is("back: to what was new", x.back(1), 0),
      () -> Due.is("back: and forth", x.back(0), 0)};
    for (int i = 0; i < doings; i++) all[i].run();
    return x;
  }

  private static void allThatIsKept() {
    long[] empty = seen(behind(1)), then = seen(behind(3));
    Due.is("image: something changed", java.util.Arrays.equals(then, seen(behind(4))) ? 1 : 0, 0);
    Due.are("back: all as it was then", seen(behind(5)), then);
    Due.are("back: the image stays", seen(behind(7)), then);
    Due.are("back: as new", seen(behind(8)), empty);
    Due.are("back: and forth", seen(behind(9)), then);
    CornerWinds x = behind(5);
    int[] terms = {2001, 21, 23, 4, 5, 6, 7, 8, 9};
    for (int what = 0; what < 9; what++) Due.is("back: terms", x.terms(what, terms[what]), terms[what]);
    Due.is("back: tier", x.tier(2, 1, 31), 31);
    Due.is("step: the latest day is the image's", x.step(41, 0, 0, 0, 0), 1);
  }

  private static void whatIsNotKept() {
    CornerWinds x = Due.tower();
    Due.bolt(x, 3, 4);
    x.wish(3);
    x.wish(4);
    x.image(0);
    x.best();
    x.clear();
    x.wish(4);
    Due.is("rule", Due.rule(x, "need 5 !"), -6);
    Due.say(x, "need 7");
    x.back(0);
    Due.is("back: the tape stays", x.count(7), 6);
    Due.is("back: the fault stays", x.fault(), 7);
    Due.is("back: the wishes stay", x.count(3), 1);
    Due.is("back: the latest best stays", x.night(1), 1);
    Due.is("back: the tape is a text", x.rule(), 1);
    Due.is("back: which has no fault", x.fault(), -1);
    x.image(1);
    Due.is("step: welded", x.step(0, 4, 0, 0, 0), 1);
    Due.is("best: welded by now", x.best(), -1);
    x.back(1);
    Due.is("best: bolted again", x.best(), 0);
    Due.is("best: of one", x.night(1), -1);
  }

  private static void two() {
    CornerWinds x = new CornerWinds();
    x.stiff(0, 1);
    x.image(0);
    x.stiff(0, 2);
    x.image(1);
    x.stiff(0, 3);
    x.back(0);
    Due.is("back: the first image", x.joint(0, 3), 1);
    x.back(1);
    Due.is("back: the second image", x.joint(0, 3), 2);
    x.image(0);
    x.stiff(0, 4);
    x.back(0);
    Due.is("image: kept anew", x.joint(0, 3), 2);
  }

  /** A text that took a number anew does not take an image's. */
  private static void texts() {
    CornerWinds x = new CornerWinds();
    x.wind(0, 1, 1);
    x.image(0);
    Due.is("rule", Due.rule(x, "need 1"), 0);
    x.image(1);
    x.back(0);
    Due.is("need: no text", x.need(0, 0, 0), -1);
    Due.is("rule", Due.rule(x, "need 2"), 0);
    Due.is("need: the new one", x.need(0, 0, 0), 2);
    x.back(1);
    Due.is("need: the image's", x.need(0, 0, 0), 1);
  }

  private static void status() {
    CornerWinds x = Due.tower();
    int[] others = {-1, 8, Integer.MIN_VALUE, Integer.MAX_VALUE};
    for (int what : others) Due.is("count: none", x.count(what), -1);
    Due.is("status: a refusal", x.stiff(48, 1), -1);
    Due.say(x, "look 1");
    x.joint(99, 0);
    x.tension(9, 9, 9);
    x.goes(9, 9, 9);
    x.falls(9, 9);
    x.need(9, 9, 9);
    x.drawing(9, 9);
    x.odds(0);
    x.saw();
    x.clear();
    x.best();
    x.low();
    x.night(0);
    x.enough(0);
    x.move();
    x.knew(0, 0);
    x.owed(0, 0, 0);
    x.under(0, 0);
    x.call(0);
    x.when();
    x.first(0);
    x.count(0);
    x.fault();
    Due.is("status: stays by all calls that only ask", x.status(), -1);
    Due.is("rule", x.rule(), 1);
    Due.is("status: the latest was not refused", x.status(), 0);
  }
}
