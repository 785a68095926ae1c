/** Promises 27 to 32: who knew what when, streets and what lies under it. */
public final class KnowingTest {
  public static void main(String[] args) {
    find();
    tell();
    owed();
    street();
    under();
    Due.close("KnowingTest");
  }

  private static void find() {
    CornerWinds x = new CornerWinds();
    Due.is("knew: not", x.knew(0, 0), -1);
    Due.is("find", x.find(0, 0, 9999), 0);
    Due.is("knew: the last day", x.knew(0, 0), 9999);
    Due.is("find: earlier", x.find(0, 0, 5), 0);
    Due.is("find: later", x.find(0, 0, 6), 0);
    Due.is("knew: the first day of all", x.knew(0, 0), 5);
    Due.is("find: day 0", x.find(7, 7, 0), 0);
    Due.is("knew: day 0", x.knew(7, 7), 0);
    Due.is("knew: another fact", x.knew(7, 6), -1);
    Due.is("knew: another person", x.knew(6, 7), -1);
    int[][] wrong = {{-1, 0, 0}, {8, 0, 0}, {0, -1, 0}, {0, 8, 0}, {0, 0, -1}, {0, 0, 10_000}};
    for (int[] w : wrong) {
      Due.is("find: wrong", x.find(w[0], w[1], w[2]), -1);
      Due.is("find: status", x.status(), -1);
    }
    int[][] none = {{-1, 0}, {8, 0}, {0, -1}, {0, 8}};
    for (int[] w : none) Due.is("knew: none", x.knew(w[0], w[1]), -1);
  }

  private static void tell() {
    CornerWinds x = new CornerWinds();
    Due.is("tell: it does not know", x.tell(0, 1, 2, 50), -3);
    Due.is("tell: status", x.status(), -3);
    x.find(0, 2, 50);
    Due.is("tell: not by then", x.tell(0, 1, 2, 49), -3);
    Due.is("tell: by then", x.tell(0, 1, 2, 50), 0);
    Due.is("tell: status", x.status(), 0);
    Due.is("knew: told", x.knew(1, 2), 50);
    Due.is("tell: further", x.tell(1, 3, 2, 60), 0);
    Due.is("tell: later again", x.tell(0, 3, 2, 70), 0);
    Due.is("knew: the first day", x.knew(3, 2), 60);
    Due.is("tell: itself", x.tell(0, 0, 2, 80), 0);
    Due.is("knew: as ahead of that", x.knew(0, 2), 50);
    Due.is("tell: itself what it does not know", x.tell(4, 4, 2, 80), -3);
    int[][] wrong = {{-1, 0, 0, 0}, {8, 0, 0, 0}, {0, -1, 0, 0}, {0, 8, 0, 0}, {0, 0, -1, 0}, {0, 0, 8, 0}, {0, 0, 0, -1}, {0, 0, 0, 10_000}};
    for (int[] w : wrong) Due.is("tell: wrong", x.tell(w[0], w[1], w[2], w[3]), -1);
    Due.is("tell: status", x.status(), -1);
  }

  private static void owed() {
    CornerWinds x = new CornerWinds();
    x.find(0, 0, 10);
    x.find(0, 1, 20);
    x.find(2, 1, 15);
    x.find(1, 7, 0);
    Due.is("owed: two others' facts", x.owed(2, 10, 0), 2);
    Due.is("owed: not one's own", x.owed(0, 99, 0), 1);
    Due.is("owed: for so many days", x.owed(3, 25, 10), 3);
    Due.is("owed: a day less", x.owed(3, 24, 10), 2);
    Due.is("owed: six days less", x.owed(3, 19, 10), 1);
    Due.is("owed: some other one, the earliest", x.owed(3, 20, 5), 3);
    Due.is("owed: it will know, but not by then", x.owed(2, 14, 0), 2);
    x.tell(1, 2, 7, 30);
    Due.is("owed: ahead of being told", x.owed(2, 29, 0), 2);
    Due.is("owed: from that day on not", x.owed(2, 30, 0), 1);
    Due.is("owed: a long grace", x.owed(3, 9999, 9999), 1);
    int[][] wrong = {{-1, 0, 0}, {8, 0, 0}, {0, -1, 0}, {0, 10_000, 0}, {0, 0, -1}, {0, 0, 10_000}};
    for (int[] w : wrong) Due.is("owed: none", x.owed(w[0], w[1], w[2]), -1);
  }

  private static void street() {
    CornerWinds x = new CornerWinds();
    int[][] wrong = {{-1, 1, 1}, {8, 1, 1}, {0, 0, 1}, {0, 21, 1}, {0, 1, -1}, {0, 1, 10_001}};
    for (int[] w : wrong) Due.is("street: wrong", x.street(w[0], w[1], w[2]), -1);
    for (int i = 0; i < 32; i++) Due.is("street: number", x.street(i % 8, i % 2 == 0 ? 1 : 20, i % 3 == 0 ? 0 : 10_000), i);
    Due.is("street: one more", x.street(0, 1, 1), -5);
    Due.is("street: status", x.status(), -5);
    Due.is("street: wrong comes first", x.street(0, 0, 1), -1);
    Due.is("street: count", x.count(4), 32);
  }

  /** Falls at a tier, by winds 0 (east) and 1 (west), one of them without current alone. */
  private static CornerWinds falling(int tier) {
    CornerWinds x = Due.tower();
    x.terms(0, 100_000);
    x.terms(1, 15);
    x.terms(2, 100);
    x.terms(4, 50);
    Due.areaOn(x, tier, 2);
    Due.bolt(x, 8 * tier + 2, 8 * tier + 3, 8 * tier + 6, 8 * tier + 7);
    x.wind(0, 100, 1);
    x.wind(4, 20, 1);
    return x;
  }

  private static void under() {
    for (int tier = 0; tier < 6; tier++) {
      CornerWinds x = falling(tier);
      int height = 3 * (6 - tier), half = height / 2;
      Due.is("under: it falls", x.falls(0, 1), tier);
      Due.is("under: no street", x.under(0, 1), 0);
      x.street(0, height, 1);
      x.street(0, height + 1, 10);
      x.street(1, half, 100);
      x.street(1, half + 1, 1000);
      x.street(7, half, 10_000);
      x.street(7, half + 1, 7000);
      x.street(2, 1, 3);
      x.street(4, height, 5000);
      Due.is("under: that way and beside it", x.under(0, 1), 10_101);
      Due.is("under: as much without current", x.under(0, 0), 10_101);
      Due.is("under: it does not fall with current", x.under(1, 1), 0);
      Due.is("under: the other way", x.under(1, 0), 5000);
      int[][] wrong = {{-1, 0}, {2, 0}, {0, -1}, {0, 2}};
      for (int[] w : wrong) Due.is("under: none", x.under(w[0], w[1]), -1);
    }
  }
}
