/** Promises 33 to 36: storms foretold, when to call, and other towers. */
public final class StormTest {
  public static void main(String[] args) {
    row();
    most();
    call();
    missing();
    lead();
    when();
    tower();
    Due.close("StormTest");
  }

  private static int[] hours(int came, int many, int odds) {
    int[] bytes = new int[many + 1];
    java.util.Arrays.fill(bytes, odds);
    bytes[0] = came;
    return bytes;
  }

  private static void row() {
    CornerWinds x = new CornerWinds();
    Due.is("row: empty", x.row(), -6);
    Due.is("row: status", x.status(), -6);
    Due.is("row: no odds", Due.row(x, 1), -6);
    Due.is("row: the tape is empty then", x.count(7), 0);
    Due.is("row: the first byte", Due.row(x, 2, 5), -6);
    Due.is("row: the first byte", Due.row(x, 255, 5), -6);
    Due.is("row: one hour", Due.row(x, 0, 255), 1);
    Due.is("row: status", x.status(), 0);
    Due.is("row: forty hours", Due.row(x, hours(1, 40, 100)), 2);
    Due.is("row: more than that", Due.row(x, hours(1, 41, 100)), -6);
    Due.is("row: the tape is empty then", x.count(7), 0);
    Due.is("row: count", x.count(5), 2);
    Due.is("row: no fault of a text", x.fault(), -1);
  }

  private static void most() {
    CornerWinds x = new CornerWinds();
    for (int i = 1; i <= 20; i++) Due.is("row", Due.row(x, hours(1, 40, 50)), i);
    Due.is("row: one more", Due.row(x, 1, 5), -5);
    Due.is("row: status", x.status(), -5);
    x.terms(6, 1000);
    x.terms(7, 1000);
    Due.is("call: all of them", x.call(50), 20_000);
    Due.is("call: none of them", x.call(51), 20_000);
    Due.is("row: no room comes first", Due.row(x, 9), -5);
    Due.is("row: the tape is empty without room, too", x.count(7), 0);
    Due.is("row: of a tape that is empty", x.row(), -5);
    Due.put(x, hours(1, 40, 50));
    Due.is("row: one that can be", x.row(), -5);
    Due.is("row: the tape is empty behind that, too", x.feed(0, 0, 0, 0, 0), 20);
    Due.is("row: as many as there were", x.count(5), 20);
  }

  private static void call() {
    CornerWinds x = new CornerWinds();
    Due.is("call: no storms", x.call(0), 0);
    Due.is("call: no storms", x.call(100), 0);
    Due.is("call: no limit", x.call(-1), -1);
    Due.is("call: no limit", x.call(101), -1);
    x.terms(6, 3);
    x.terms(7, 100);
    Due.row(x, 1, 0, 60, 20, 100);
    Due.row(x, 0, 10, 10, 70);
    Due.row(x, 1, 40);
    int[][] due = {{0, 9}, {10, 9}, {11, 9}, {40, 9}, {41, 106}, {60, 106}, {70, 106}, {71, 103}, {100, 103}};
    for (int[] d : due) Due.is("call at " + d[0], x.call(d[0]), d[1]);
    x.terms(6, 0);
    Due.is("call: it costs nothing", x.call(0), 0);
    x.terms(7, 0);
    Due.is("call: nor does a loss", x.call(100), 0);
  }

  private static void missing() {
    CornerWinds x = new CornerWinds();
    Due.row(x, 1, 101, 30, 255, 101, 20, 200);
    x.terms(8, 6);
    Due.is("call: a first hour that is missing tells 0", x.call(0), 1);
    Due.is("call: not more", x.call(1), 11);
    x.terms(8, 5);
    Due.is("call: the second hour", x.call(30), 1);
    Due.is("call: none so high", x.call(31), 10);
    x = new CornerWinds();
    Due.row(x, 0, 100, 101);
    Due.is("call: 100 is not missing", x.call(100), 1);
  }

  private static void lead() {
    CornerWinds x = new CornerWinds();
    Due.row(x, 1, 10, 20, 30);
    int[] limits = {10, 20, 30};
    for (int lead = 1; lead <= 4; lead++) {
      x.terms(8, lead);
      for (int i = 0; i < 3; i++) Due.is("call: hours are left, this one, too", x.call(limits[i]), 3 - i >= lead ? 1 : 11);
      Due.is("call: not at all", x.call(31), 10);
    }
    x = new CornerWinds();
    x.terms(8, 40);
    Due.row(x, 0, 50);
    Due.is("call: what did not come is no loss", x.call(50), 1);
    Due.is("call: nor not called", x.call(51), 0);
  }

  private static void when() {
    CornerWinds x = new CornerWinds();
    Due.is("when: no storms", x.when(), -1);
    Due.row(x, 0, 30);
    Due.is("when: never", x.when(), 100);
    Due.row(x, 1, 20);
    Due.is("when: the greatest of alike ones", x.when(), 20);
    x.terms(7, 1);
    Due.is("when: a loss costs as much as calling", x.when(), 100);
    Due.row(x, 1, 100);
    x.terms(7, 10);
    Due.is("when: the low one must be called", x.when(), 20);
    x.terms(6, 1000);
    Due.is("when: calling is dear", x.when(), 100);
    x = new CornerWinds();
    x.terms(6, 0);
    Due.row(x, 1, 0);
    Due.is("when: at 0 alone", x.when(), 0);
    x = new CornerWinds();
    Due.row(x, 1, 1);
    Due.row(x, 0, 0);
    Due.is("when: at 1 alone", x.when(), 1);
  }

  private static void tower() {
    CornerWinds x = new CornerWinds();
    int[][] wrong = {{0, 0, 0, 0, 0}, {201, 0, 0, 0, 0}, {1, -1, 0, 0, 0}, {1, 101, 0, 0, 0}, {1, 0, -1, 0, 0}, {1, 0, 401, 0, 0},
      {1, 0, 0, -1, 0}, {1, 0, 0, 11, 0}, {1, 0, 0, 0, -1}, {1, 0, 0, 0, 2}};
    for (int[] w : wrong) {
      Due.is("tower: wrong", x.tower(w[0], w[1], w[2], w[3], w[4]), -1);
      Due.is("tower: status", x.status(), -1);
    }
    Due.is("tower: the least", x.tower(1, 0, 0, 0, 0), 0);
    for (int i = 1; i < 12; i++) Due.is("tower: the most", x.tower(200, 100, 400, 10, 1), i);
    Due.is("tower: one more", x.tower(1, 0, 0, 0, 0), -5);
    Due.is("tower: status", x.status(), -5);
    Due.is("tower: wrong comes first", x.tower(0, 0, 0, 0, 0), -1);
    Due.is("tower: count", x.count(6), 12);
  }
}
