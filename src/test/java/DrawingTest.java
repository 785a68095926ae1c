/** Promises 16 to 18: steps, what is drawn of them, and the one by which it could be seen. */
public final class DrawingTest {
  public static void main(String[] args) {
    step();
    let();
    most();
    drawing();
    saw();
    sawAgain();
    Due.close("DrawingTest");
  }

  private static void step() {
    CornerWinds x = new CornerWinds();
    Due.is("step: no text", x.step(0, 0, 1, 0, 0), -2);
    Due.is("step: status", x.status(), -2);
    Due.is("rule", Due.rule(x, "need 0"), 0);
    int[][] wrong = {{-1, 0, 0, 0, 0}, {10_000, 0, 0, 0, 0}, {0, -1, 0, 0, 0}, {0, 48, 0, 0, 0}, {0, 0, -1, 0, 0}, {0, 0, 2, 0, 0},
      {0, 0, 0, -1, 0}, {0, 0, 0, 8, 0}, {0, 48, 0, 0, 5}};
    for (int[] w : wrong) Due.is("step: wrong", x.step(w[0], w[1], w[2], w[3], w[4]), -1);
    Due.is("step: status", x.status(), -1);
    Due.is("step: done", x.step(5, 47, 1, 7, 0), 1);
    Due.is("step: status", x.status(), 0);
    Due.is("step: bolted", x.joint(47, 0), 1);
    Due.is("step: a day ahead of it", x.step(4, 3, 1, 7, 0), -3);
    Due.is("step: status", x.status(), -3);
    Due.is("step: not done", x.joint(3, 0), 0);
    Due.is("step: no text comes first", x.step(4, 3, 1, 7, 1), -2);
    Due.is("step: no text", x.step(9, 3, 1, 7, -1), -2);
    Due.is("step: the same day", x.step(5, 47, 0, 7, 0), 1);
    Due.is("step: welded", x.joint(47, 0), 0);
    Due.is("step: the last day", x.step(9999, 47, 1, 7, 0), 1);
    Due.is("step: count", x.count(2), 3);
  }

  /** Joint 0 of the lowest tier bears 25 by its wind; a bolt holds 25 or less. */
  private static void let() {
    CornerWinds x = new CornerWinds();
    Due.areaOn(x, 0, 1);
    x.terms(2, 0);
    x.wind(0, 100, 1);
    Due.is("rule", Due.rule(x, "need load+day;need 1 if welded"), 0);
    x.terms(1, 25);
    Due.is("step: just let", x.step(0, 0, 1, 0, 0), 1);
    Due.is("step: not let on that day", x.step(1, 0, 1, 0, 0), 0);
    Due.is("step: as it is behind it, welded", x.step(1, 0, 0, 0, 0), 1);
    Due.is("step: not let", x.step(1, 0, 1, 0, 0), 0);
    Due.is("step: done all the same", x.joint(0, 0), 1);
    Due.is("step: that is no refusal", x.status(), 0);
    x.terms(1, 100);
    Due.is("drawing: as it was then", x.drawing(3, 5), 0);
    Due.is("step: let now", x.step(1, 0, 1, 0, 0), 1);
  }

  private static void most() {
    CornerWinds x = Due.tower();
    for (int i = 0; i < 60; i++) Due.is("step", x.step(i / 2, i % 48, 1, i % 8, 0), 1);
    Due.is("step: one more", x.step(30, 47, 0, 0, 0), -5);
    Due.is("step: status", x.status(), -5);
    Due.is("step: not done", x.joint(47, 0), 1);
    Due.is("step: a day ahead comes first", x.step(0, 47, 0, 0, 0), -3);
    Due.is("step: count", x.count(2), 60);
    Due.is("drawing: the last", x.drawing(59, 1), 11);
  }

  private static void drawing() {
    CornerWinds x = Due.tower();
    Due.is("rule", Due.rule(x, "need 2000"), 1);
    x.wind(2, 1, 1);
    Due.is("step", x.step(12, 34, 0, 6, 0), 1);
    Due.is("step", x.step(13, 35, 1, 5, 1), 0);
    int[][] due = {{12, 34, 0, 6, 0, 1}, {13, 35, 1, 5, 1, 0}};
    for (int i = 0; i < 2; i++) for (int what = 0; what < 6; what++) Due.is("drawing", x.drawing(i, what), due[i][what]);
    int[][] wrong = {{-1, 0}, {2, 0}, {0, -1}, {0, 6}};
    for (int[] w : wrong) Due.is("drawing: none", x.drawing(w[0], w[1]), -1);
  }

  private static void saw() {
    CornerWinds x = Due.tower();
    x.terms(2, 100);
    x.terms(1, 1);
    x.wind(0, 9, 1);
    Due.bolt(x, 18, 5, 19);
    Due.is("saw: the second bolt of a face", x.saw(), 2);
    Due.is("step: welded again", x.step(0, 19, 0, 0, 0), 1);
    Due.is("falls: it does not", x.falls(0, 1), -1);
    Due.is("saw: it did then", x.saw(), 2);
    x.plate(18, 4);
    Due.is("saw: plates are none", x.saw(), 2);
    x.terms(1, 1000);
    Due.is("saw: all else is as it is", x.saw(), -1);
    x.terms(1, 1);
    x.terms(4, 50);
    x.tier(2, 1, 100);
    Due.is("saw: by what stands now", x.saw(), 2);
    x.tier(2, 1, 10_000);
    Due.is("saw: not any more", x.saw(), -1);
  }

  private static void sawAgain() {
    CornerWinds x = Due.tower();
    x.terms(2, 100);
    x.wind(0, 10, 1);
    // All welded, the lowest tier's east face holds 1000 a joint against 1050.
    Due.is("falls: as it was made", x.falls(0, 1), 0);
    Due.bolt(x, 18, 19);
    Due.is("saw: it fell ahead of it", x.saw(), -1);
    x.wind(2, 9, 1);
    Due.is("saw: nor by another wind", x.saw(), -1);
    Due.bolt(x, 0);
    Due.is("saw: one bolt on the north, where that wind pulls", x.saw(), 2);
  }
}
