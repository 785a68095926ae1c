/** Terms IV, promises 27 to 41 and the count of calls: for each sentence that names an edge a test at it and one beyond. */
public final class EdgesFourTest {
  private static final int LEAST = Integer.MIN_VALUE, MOST = Integer.MAX_VALUE;

  public static void main(String[] args) {
    factsPersonsDays();
    tellNumbers();
    knowsByThen();
    knew();
    owed();
    owedWithout();
    streets();
    streetNumbers();
    heights();
    waysBeside();
    underWithout();
    storms();
    rowForms();
    rowAndTape();
    missingHours();
    firstHour();
    lead();
    callingAndLoss();
    callWithout();
    when();
    towers();
    towerNumbers();
    first();
    firstWithout();
    images();
    notKept();
    kept();
    rowsComeBack();
    streetsComeBack();
    textsComeBack();
    backNumbers();
    counts();
    statusOfEach();
    statusOfOthers();
    calls512();
    Due.close("EdgesFourTest");
  }

  private static void factsPersonsDays() {
    Due.says("FACTS 0 .. 7, PERSONS 0 .. 7, DAYS 0 .. 9999");
    CornerWinds x = new CornerWinds();
    int[][] wrong = {{-1, 0, 0}, {8, 0, 0}, {LEAST, 0, 0}, {MOST, 0, 0}, {0, -1, 0}, {0, 8, 0}, {0, LEAST, 0}, {0, MOST, 0},
      {0, 0, -1}, {0, 0, 10_000}, {0, 0, LEAST}, {0, 0, MOST}};
    for (int[] w : wrong) Due.is("find of " + w[0] + ", " + w[1] + ", " + w[2], x.find(w[0], w[1], w[2]), -1);
    for (int p = 0; p < 8; p++) for (int f = 0; f < 8; f++) Due.is("none was found", x.knew(p, f), -1);
    for (int p : new int[] {0, 7}) for (int f : new int[] {0, 7}) Due.is("found", x.find(p, f, p == f ? 0 : 9999), 0);
    Due.is("the first of all", x.knew(0, 0), 0);
    Due.is("the last person", x.knew(7, 0), 9999);
    Due.is("the last fact", x.knew(0, 7), 9999);
    Due.is("both", x.knew(7, 7), 0);
    Due.says("A FACT is found out: 0. -1.");
    Due.is("status", x.status(), 0);
    Due.is("wrong", x.find(8, 0, 0), -1);
    Due.is("status", x.status(), -1);
  }

  private static void tellNumbers() {
    Due.says("One tells another one (or itself) a FACT: 0. -1; -3.");
    CornerWinds x = new CornerWinds();
    x.find(0, 0, 0);
    int[][] wrong = {{-1, 0, 0, 0}, {8, 0, 0, 0}, {LEAST, 0, 0, 0}, {MOST, 0, 0, 0}, {0, -1, 0, 0}, {0, 8, 0, 0}, {0, LEAST, 0, 0}, {0, MOST, 0, 0},
      {0, 0, -1, 0}, {0, 0, 8, 0}, {0, 0, LEAST, 0}, {0, 0, MOST, 0}, {0, 0, 0, -1}, {0, 0, 0, 10_000}, {0, 0, 0, LEAST}, {0, 0, 0, MOST}};
    for (int[] w : wrong) Due.is("tell " + w[0] + ", " + w[1] + ", " + w[2] + ", " + w[3], x.tell(w[0], w[1], w[2], w[3]), -1);
    Due.is("the first day", x.tell(0, 7, 0, 0), 0);
    Due.is("the last one tells on the last day", x.tell(7, 1, 0, 9999), 0);
    Due.is("told", x.knew(1, 0), 9999);
    Due.is("itself", x.tell(0, 0, 0, 5), 0);
    Due.is("which changes nothing", x.knew(0, 0), 0);
    Due.is("itself what it does not know", x.tell(2, 2, 0, 5), -3);
    Due.is("nor knows by that", x.knew(2, 0), -1);
    x.find(7, 7, 9999);
    Due.is("the last fact", x.tell(7, 0, 7, 9999), 0);
  }

  private static void knowsByThen() {
    Due.says("one tells another one on a DAY what it knows by then (else -3)");
    CornerWinds x = new CornerWinds();
    Due.is("never", x.tell(1, 2, 3, 9999), -3);
    x.find(1, 3, 20);
    Due.is("the day ahead", x.tell(1, 2, 3, 19), -3);
    Due.is("status", x.status(), -3);
    Due.is("not told", x.knew(2, 3), -1);
    Due.is("that day", x.tell(1, 2, 3, 20), 0);
    Due.is("told", x.knew(2, 3), 20);
    Due.is("another fact", x.tell(1, 2, 4, 20), -3);
    Due.is("what was told is told on", x.tell(2, 4, 3, 20), 0);
    Due.is("not ahead of it", x.tell(2, 5, 3, 19), -3);
    x.find(1, 3, 10);
    Due.is("known since earlier by now", x.tell(1, 2, 3, 10), 0);
    Due.is("told earlier, too", x.knew(2, 3), 10);
    Due.is("not ahead of that", x.tell(1, 2, 3, 9), -3);
    x = new CornerWinds();
    x.find(0, 0, 9999);
    Due.is("the last day but one", x.tell(0, 1, 0, 9998), -3);
    Due.is("the last day", x.tell(0, 1, 0, 9999), 0);
  }

  private static void knew() {
    Due.says("KNEW: the first DAY of all.");
    CornerWinds x = new CornerWinds();
    x.find(0, 0, 50);
    x.find(0, 0, 51);
    Due.is("a later one", x.knew(0, 0), 50);
    x.find(0, 0, 50);
    Due.is("the same", x.knew(0, 0), 50);
    x.find(0, 0, 49);
    Due.is("an earlier one", x.knew(0, 0), 49);
    x.find(1, 0, 70);
    x.tell(0, 1, 0, 71);
    Due.is("told later than found", x.knew(1, 0), 70);
    x.tell(0, 1, 0, 60);
    Due.is("told earlier than found", x.knew(1, 0), 60);
    Due.says("KNEW; NONE.");
    int[][] wrong = {{-1, 0}, {8, 0}, {LEAST, 0}, {MOST, 0}, {0, -1}, {0, 8}, {0, LEAST}, {0, MOST}};
    for (int[] w : wrong) Due.is("knew of " + w[0] + ", " + w[1], x.knew(w[0], w[1]), -1);
    Due.is("one that never knew", x.knew(7, 7), -1);
  }

  private static void owed() {
    Due.says("OWED to a PERSON on a DAY with a grace: how many FACTS it does not know by then that some other one has known for so many DAYS at least.");
    CornerWinds x = new CornerWinds();
    x.find(1, 0, 10);
    Due.is("the day ahead", x.owed(0, 9, 0), 0);
    Due.is("that day", x.owed(0, 10, 0), 1);
    Due.is("a grace of a day, that day", x.owed(0, 10, 1), 0);
    Due.is("a grace of a day, the next day", x.owed(0, 11, 1), 1);
    Due.is("a grace of ten, a day less", x.owed(0, 19, 10), 0);
    Due.is("a grace of ten", x.owed(0, 20, 10), 1);
    Due.is("to the one that found it", x.owed(1, 20, 10), 0);
    x.find(0, 0, 25);
    Due.is("it does not know yet", x.owed(0, 24, 0), 1);
    Due.is("it knows by then", x.owed(0, 25, 0), 0);
    Due.is("to the one that knew first, though another one knows", x.owed(1, 9, 0), 0);
    for (int fact = 0; fact < 8; fact++) x.find(7, fact, fact);
    Due.is("all facts", x.owed(3, 7, 0), 8);
    Due.is("all but the last", x.owed(3, 6, 0), 7);
    Due.is("by grace", x.owed(3, 7, 7), 1);
    Due.is("by grace", x.owed(3, 7, 8), 0);
    x = new CornerWinds();
    x.find(0, 0, 0);
    Due.is("the greatest grace on the last day", x.owed(1, 9999, 9999), 1);
    Due.is("a day less", x.owed(1, 9998, 9999), 0);
    Due.is("none knows another one", x.owed(0, 9999, 0), 0);
    x.find(2, 0, 9999);
    Due.is("it knows on the last day", x.owed(2, 9999, 0), 0);
    Due.is("and not the day ahead", x.owed(2, 9998, 0), 1);
  }

  private static void owedWithout() {
    Due.says("OWED to a PERSON on a DAY with a grace (0 .. 9999); NONE.");
    CornerWinds x = new CornerWinds();
    int[][] wrong = {{-1, 0, 0}, {8, 0, 0}, {LEAST, 0, 0}, {MOST, 0, 0}, {0, -1, 0}, {0, 10_000, 0}, {0, LEAST, 0}, {0, MOST, 0},
      {0, 0, -1}, {0, 0, 10_000}, {0, 0, LEAST}, {0, 0, MOST}};
    for (int[] w : wrong) Due.is("owed to " + w[0] + ", " + w[1] + ", " + w[2], x.owed(w[0], w[1], w[2]), -1);
    Due.is("the first", x.owed(0, 0, 0), 0);
    Due.is("the last", x.owed(7, 9999, 9999), 0);
  }

  private static void streets() {
    Due.says("STREETS 0 .. 31 (32 at most)");
    CornerWinds x = falling(0, 0);
    for (int i = 0; i < 32; i++) {
      Due.is("count", x.count(4), i);
      Due.is("its number", x.street(0, 1, 10_000), i);
    }
    Due.is("all of them", x.under(0, 1), 320_000);
    Due.is("one more", x.street(0, 1, 1), -5);
    Due.is("count", x.count(4), 32);
    Due.is("it is not there", x.under(0, 1), 320_000);
    Due.says("A STREET: its number. -1; -5.");
    Due.is("status", x.status(), -5);
    Due.is("wrong", x.street(8, 1, 1), -1);
    Due.is("status", x.status(), -1);
  }

  private static void streetNumbers() {
    Due.says("a WAY, FAR 1 .. 20, PEOPLE 0 .. 10,000");
    CornerWinds x = falling(0, 0);
    int[][] wrong = {{-1, 1, 1}, {8, 1, 1}, {LEAST, 1, 1}, {MOST, 1, 1}, {0, 0, 1}, {0, 21, 1}, {0, LEAST, 1}, {0, MOST, 1},
      {0, 1, -1}, {0, 1, 10_001}, {0, 1, LEAST}, {0, 1, MOST}};
    for (int[] w : wrong) Due.is("street of " + w[0] + ", " + w[1] + ", " + w[2], x.street(w[0], w[1], w[2]), -1);
    Due.is("none came", x.count(4), 0);
    int[][] right = {{0, 1, 0}, {0, 20, 10_000}, {7, 1, 10_000}, {0, 1, 10_000}};
    for (int i = 0; i < 4; i++) Due.is("street", x.street(right[i][0], right[i][1], right[i][2]), i);
    Due.is("two of them", x.under(0, 1), 20_000);
  }

  /** Falls at a tier by a wind of a way, with and without current. */
  private static CornerWinds falling(int tier, int way) {
    CornerWinds x = Due.tower();
    Due.areaOn(x, tier, 1);
    for (int t = 0; t < tier; t++) x.tier(t, 1, 100_000);
    x.terms(1, 1);
    x.terms(2, 100);
    x.wind(way, 100, 1);
    for (int i = 0; i < 8; i++) Due.bolt(x, 8 * tier + i);
    Due.is("it falls by way " + way, x.falls(0, 1), tier);
    return x;
  }

  private static void heights() {
    Due.says("PEOPLE in STREETS of that WAY not farther than its HEIGHT (TIERS from the lowest one that STANDS not on, times 3), those of the two WAYS beside it not farther than half of that, cut.");
    int[] heights = {18, 15, 12, 9, 6, 3}, halves = {9, 7, 6, 4, 3, 1};
    for (int tier = 0; tier < 6; tier++) {
      for (int far = 1; far <= 20; far++) {
        CornerWinds x = falling(tier, 0);
        x.street(0, far, 1);
        x.street(1, far, 10);
        x.street(7, far, 100);
        int due = (far <= heights[tier] ? 1 : 0) + (far <= halves[tier] ? 110 : 0);
        Due.is("tier " + tier + ", far " + far, x.under(0, 1), due);
        Due.is("tier " + tier + ", far " + far + ", without current", x.under(0, 0), due);
      }
    }
  }

  private static void waysBeside() {
    Due.says("those of the two WAYS beside it");
    for (int way = 0; way < 8; way++) {
      for (int beside = 0; beside < 8; beside++) {
        CornerWinds x = falling(2, way);
        x.street(beside, 1, 2);
        x.street(beside, 6, 1);
        x.street(beside, 7, 10);
        x.street(beside, 12, 100);
        x.street(beside, 13, 1000);
        int apart = Math.min(Math.floorMod(way - beside, 8), Math.floorMod(beside - way, 8));
        Due.is("way " + way + ", street " + beside, x.under(0, 1), apart == 0 ? 113 : apart == 1 ? 3 : 0);
      }
    }
  }

  private static void underWithout() {
    Due.says("UNDER it, if it FALLS by a WIND (0 if it does not). NONE.");
    CornerWinds x = falling(0, 0);
    Due.is("no street", x.under(0, 1), 0);
    x.street(0, 1, 7);
    Due.is("one", x.under(0, 1), 7);
    int[][] wrong = {{-1, 1}, {1, 1}, {LEAST, 1}, {MOST, 1}, {0, -1}, {0, 2}, {0, LEAST}, {0, MOST}};
    for (int[] w : wrong) Due.is("under by " + w[0] + ", " + w[1], x.under(w[0], w[1]), -1);
    x.tier(0, 1, 100_000);
    Due.is("it does not fall", x.under(0, 1), 0);
    x.tier(0, 1, 0);
    Due.is("it does again", x.under(0, 1), 7);
    x.terms(1, 1000);
    Due.is("it does not fall", x.under(0, 1), 0);
    Due.is("no wind", new CornerWinds().under(0, 1), -1);
  }

  private static void storms() {
    Due.says("STORMS foretold, 20 at most, by ROWS");
    CornerWinds x = new CornerWinds();
    for (int i = 1; i <= 20; i++) {
      Due.is("how many there are", Due.row(x, 1, 50), i);
      Due.is("count", x.count(5), i);
    }
    Due.is("all are called", x.call(50), 20);
    Due.is("one more", Due.row(x, 1, 50), -5);
    Due.is("count", x.count(5), 20);
    Due.is("it is not there", x.call(50), 20);
    Due.is("none is called", x.call(51), 200);
  }

  private static int[] hours(int came, int many, int odds) {
    int[] bytes = new int[many + 1];
    java.util.Arrays.fill(bytes, odds);
    bytes[0] = came;
    return bytes;
  }

  private static void rowForms() {
    Due.says("the TAPE's first byte is 1 if it came, 0 if not; the others (1 .. 40 of them) are odds by HOURS");
    CornerWinds x = new CornerWinds();
    for (int b = 2; b < 256; b++) Due.is("first byte " + b, new CornerWindsRow(b).answer, -6);
    Due.is("it did not come", Due.row(x, 0, 50), 1);
    Due.is("no loss", x.call(51), 0);
    Due.is("it came", Due.row(x, 1, 50), 2);
    Due.is("a loss", x.call(51), 10);
    Due.is("one hour", Due.row(x, hours(0, 1, 60)), 3);
    Due.is("no hour", Due.row(x, hours(0, 0, 60)), -6);
    Due.is("no hour", Due.row(x, hours(1, 0, 60)), -6);
    Due.is("forty hours", Due.row(x, hours(0, 40, 60)), 4);
    Due.is("forty-one", Due.row(x, hours(0, 41, 60)), -6);
    Due.is("as many as a tape has", Due.row(x, hours(0, 399, 60)), -6);
    Due.is("count", x.count(5), 4);
    x = new CornerWinds();
    int[] late = hours(1, 40, 0);
    late[40] = 77;
    Due.is("row", Due.row(x, late), 1);
    Due.is("the fortieth hour counts", x.call(77), 1);
    Due.is("not more than it tells", x.call(78), 10);
  }

  /** A row with such a first byte, on a new object. */
  private static final class CornerWindsRow {
    final int answer;

    CornerWindsRow(int first) { answer = Due.row(new CornerWinds(), first, 50); }
  }

  private static void rowAndTape() {
    Due.says("A STORM by its ROW, the TAPE is empty then: how many there are. -5; -6 (no odds, more than 40, the first byte).");
    CornerWinds x = new CornerWinds();
    int[][] wrong = {{}, {0}, {1}, {2, 5}, {255, 5}, hours(1, 41, 5), hours(2, 41, 5)};
    for (int[] w : wrong) {
      Due.is("a row that can't be", Due.row(x, w), -6);
      Due.is("status", x.status(), -6);
      Due.is("the tape is empty", x.count(7), 0);
      Due.is("count", x.count(5), 0);
    }
    for (int i = 1; i <= 20; i++) {
      Due.is("row", Due.row(x, 1, 5), i);
      Due.is("status", x.status(), 0);
      Due.is("the tape is empty", x.count(7), 0);
    }
    for (int[] w : wrong) {
      Due.is("no room comes first", Due.row(x, w), -5);
      Due.is("status", x.status(), -5);
      Due.is("the tape is empty", x.count(7), 0);
    }
    Due.is("no room for one that can be", Due.row(x, 1, 5), -5);
    Due.is("the tape is empty", x.count(7), 0);
  }

  private static void missingHours() {
    Due.says("one above 100 is missing: that HOUR tells what the one ahead did, 0 the first");
    CornerWinds x = new CornerWinds();
    Due.row(x, 1, 100);
    Due.is("100 is not missing", x.call(100), 1);
    for (int b = 101; b < 256; b++) {
      x = new CornerWinds();
      Due.row(x, 1, b);
      Due.is("the first tells 0, at 0", x.call(0), 1);
      Due.is("the first tells 0, at 1", x.call(1), 10);
    }
    x = new CornerWinds();
    x.terms(8, 2);
    Due.row(x, 1, 30, 101, 20, 255, 40, 101);
    // Told: 30, 30, 20, 20, 40, 40; two hours must be left.
    Due.is("the hour ahead tells 40", x.call(40), 1);
    x.terms(8, 3);
    Due.is("it is the fifth hour", x.call(40), 11);
    Due.is("the first hour", x.call(30), 1);
    x = new CornerWinds();
    x.terms(8, 2);
    Due.row(x, 1, 101, 102, 50, 60);
    Due.is("all ahead of the first that is told are 0", x.call(1), 1);
    x.terms(8, 3);
    Due.is("so it is the third hour", x.call(1), 11);
  }

  private static void firstHour() {
    Due.says("CALL at a limit c (0 .. 100): in each storm in the first HOUR in which odds are at least c.");
    CornerWinds x = new CornerWinds();
    Due.row(x, 1, 0, 50, 49, 51, 100);
    int[][] due = {{0, 5}, {1, 4}, {49, 4}, {50, 4}, {51, 2}, {52, 1}, {100, 1}};
    for (int[] d : due) {
      x.terms(8, d[1]);
      Due.is("limit " + d[0] + ", so many hours are left", x.call(d[0]), 1);
      x.terms(8, d[1] + 1);
      Due.is("limit " + d[0] + ", and not one more", x.call(d[0]), 11);
    }
    x = new CornerWinds();
    Due.row(x, 1, 99);
    Due.is("99 is not 100", x.call(100), 10);
    Due.is("99 is 99", x.call(99), 1);
  }

  private static void lead() {
    Due.says("LOSS for each that came and was not called so that LEAD HOURS at least are left (this one, too)");
    CornerWinds x = new CornerWinds();
    Due.row(x, hours(1, 40, 50));
    x.terms(8, 40);
    Due.is("forty hours are left in the first", x.call(50), 1);
    x = new CornerWinds();
    Due.row(x, hours(1, 39, 50));
    x.terms(8, 40);
    Due.is("thirty-nine are not enough", x.call(50), 11);
    x.terms(8, 39);
    Due.is("just enough", x.call(50), 1);
    x = new CornerWinds();
    Due.row(x, 1, 0, 50);
    Due.is("the last hour is one", x.call(50), 1);
    x.terms(8, 2);
    Due.is("not two", x.call(50), 11);
    Due.is("not called at all costs the loss alone", x.call(51), 10);
    x = new CornerWinds();
    Due.row(x, 0, 0, 50);
    x.terms(8, 2);
    Due.is("it did not come", x.call(50), 1);
    Due.is("nor was it called", x.call(51), 0);
  }

  private static void callingAndLoss() {
    Due.says("It costs CALLING for each storm in which it is called");
    CornerWinds x = new CornerWinds();
    for (int i = 0; i < 10; i++) Due.row(x, 1, 50);
    for (int i = 0; i < 10; i++) Due.row(x, 0, 50);
    x.terms(6, 0);
    x.terms(7, 0);
    Due.is("nothing costs anything", x.call(50) + x.call(51), 0);
    x.terms(6, 1000);
    x.terms(7, 1000);
    Due.is("the most for calling", x.call(50), 20_000);
    Due.is("the most for losing", x.call(51), 10_000);
    x.terms(8, 40);
    Due.is("both", x.call(50), 30_000);
  }

  private static void callWithout() {
    Due.says("At a limit what all STORMS cost; NONE.");
    CornerWinds x = new CornerWinds();
    Due.is("no storms, limit 0", x.call(0), 0);
    Due.is("no storms, limit 100", x.call(100), 0);
    Due.row(x, 1, 0);
    for (int limit : new int[] {-1, 101, LEAST, MOST}) Due.is("limit " + limit, x.call(limit), -1);
    Due.is("limit 0", x.call(0), 1);
    Due.is("limit 100", x.call(100), 10);
  }

  private static void when() {
    Due.says("WHEN: the limit that costs least, of alike ones the greatest.");
    CornerWinds x = new CornerWinds();
    Due.row(x, 1, 50);
    Due.is("at 50, not below", x.when(), 50);
    x.terms(7, 1);
    Due.is("alike everywhere", x.when(), 100);
    x.terms(7, 0);
    Due.is("not to call is cheaper", x.when(), 100);
    x = new CornerWinds();
    Due.row(x, 1, 100);
    Due.is("at 100", x.when(), 100);
    Due.row(x, 1, 0);
    Due.is("at 0", x.when(), 0);
    x = new CornerWinds();
    Due.row(x, 1, 1);
    Due.row(x, 0, 0);
    Due.is("at 1", x.when(), 1);
    x = new CornerWinds();
    x.terms(7, 2);
    Due.row(x, 0, 40);
    Due.row(x, 1, 60);
    // 2 up to 40, 1 up to 60, 2 beyond.
    Due.is("the least, not what is as much as at 0", x.when(), 60);
    x = new CornerWinds();
    Due.row(x, 0, 99);
    Due.is("at 100 alone it is not called", x.when(), 100);
    Due.says("WHEN; NONE without STORMS.");
    x = new CornerWinds();
    Due.is("no storms", x.when(), -1);
    Due.row(x, 2, 5);
    Due.is("still none", x.when(), -1);
    Due.row(x, 0, 5);
    Due.is("one", x.when(), 100);
  }

  private static void towers() {
    Due.says("OTHER TOWERS, 12 at most: floors 1 .. 200, age 0 .. 100, braces 0 .. 400, leg 0 .. 10, bolted.");
    CornerWinds x = new CornerWinds();
    Due.rule(x, "look floors");
    for (int i = 0; i < 12; i++) {
      Due.is("count", x.count(6), i);
      Due.is("its number", x.tower(1 + i, 0, 0, 0, 0), i);
      Due.is("it is the first", x.first(0), i);
    }
    Due.is("one more", x.tower(200, 0, 0, 0, 0), -5);
    Due.is("count", x.count(6), 12);
    Due.is("it is not there", x.first(0), 11);
    Due.says("Another TOWER: its number. -1; -5.");
    Due.is("status", x.status(), -5);
    Due.is("wrong", x.tower(0, 0, 0, 0, 0), -1);
    Due.is("status", x.status(), -1);
  }

  private static void towerNumbers() {
    Due.says("floors 1 .. 200, age 0 .. 100, braces 0 .. 400, leg 0 .. 10, bolted");
    CornerWinds x = new CornerWinds();
    int[] least = {1, 0, 0, 0, 0}, most = {200, 100, 400, 10, 1};
    for (int i = 0; i < 5; i++) {
      for (int value : new int[] {least[i] - 1, most[i] + 1, LEAST, MOST}) {
        int[] t = {10, 10, 10, 5, 1};
        t[i] = value;
        Due.is("number " + i + " is " + value, x.tower(t[0], t[1], t[2], t[3], t[4]), -1);
      }
    }
    Due.is("none came", x.count(6), 0);
    for (int i = 0; i < 5; i++) {
      int[] low = {10, 10, 10, 5, 1}, high = low.clone();
      low[i] = least[i];
      high[i] = most[i];
      Due.is("number " + i + " is the least", x.tower(low[0], low[1], low[2], low[3], low[4]), 2 * i);
      Due.is("number " + i + " is the most", x.tower(high[0], high[1], high[2], high[3], high[4]), 2 * i + 1);
    }
    String[] words = {"floors", "age", "braces", "leg"};
    for (int i = 0; i < 4; i++) {
      Due.is("rule", Due.rule(x, "look " + words[i]), 2 * i);
      Due.is("rule", Due.rule(x, "look 0-" + words[i]), 2 * i + 1);
      Due.is("the most " + words[i], x.first(2 * i), 2 * i + 1);
      Due.is("the least " + words[i], x.first(2 * i + 1), 2 * i);
    }
  }

  private static void first() {
    Due.says("FIRST by a TEXT: the one for which the last \"look\" that HOLDS tells most (those without none), of alike ones the first.");
    CornerWinds x = new CornerWinds();
    x.tower(5, 1, 0, 0, 0);
    x.tower(9, 2, 0, 0, 1);
    x.tower(9, 3, 0, 0, 0);
    String[] texts = {"look floors", "look 1", "look floors if not bolted", "look 0-floors", "look 0-100000*10000", "look 5;look 10-floors if age<3",
      "look floors/[age-2]", "look 1/0"};
    // By the sixth: 5, 1 and 5. By the seventh: -5, broken, 9.
    int[] due = {1, 0, 2, 0, 0, 0, 2, -1};
    for (int i = 0; i < 8; i++) {
      Due.is("rule", Due.rule(x, texts[i]), i);
      Due.is("first by \"" + texts[i] + "\"", x.first(i), due[i]);
    }
    x = new CornerWinds();
    x.tower(5, 0, 0, 0, 0);
    x.tower(6, 0, 0, 0, 1);
    Due.rule(x, "look 0-9 if bolted");
    Due.is("below 0 is more than none", x.first(0), 1);
    Due.rule(x, "look 9;look 0-9");
    Due.is("the last one of both", x.first(1), 0);
    Due.rule(x, "need 9;edge");
    Due.is("no look", x.first(2), -1);
    Due.rule(x, "look 1 if floors=5;look 2 if floors=6;look 3 if floors=7");
    Due.is("the one that tells more is behind", x.first(3), 1);
  }

  private static void firstWithout() {
    Due.says("FIRST by a TEXT; NONE.");
    CornerWinds x = new CornerWinds();
    Due.is("no text", x.first(0), -1);
    Due.rule(x, "look 1");
    Due.is("no towers", x.first(0), -1);
    x.tower(1, 0, 0, 0, 0);
    Due.is("one", x.first(0), 0);
    for (int text : new int[] {-1, 1, 7, 8, LEAST, MOST}) Due.is("by text " + text, x.first(text), -1);
  }

  private static void images() {
    Due.says("IMAGE k is kept: 0; -1.");
    CornerWinds x = new CornerWinds();
    for (int k : new int[] {-1, 2, LEAST, MOST}) {
      Due.is("image " + k, x.image(k), -1);
      Due.is("status", x.status(), -1);
    }
    Due.is("image 0", x.image(0), 0);
    Due.is("status", x.status(), 0);
    Due.is("image 1", x.image(1), 0);
    Due.is("image 0 again", x.image(0), 0);
  }

  private static void notKept() {
    Due.says("IMAGES 0, 1 keep all but the TAPE, FAULT, WISHES and the latest BEST");
    CornerWinds x = Due.tower();
    Due.bolt(x, 3, 4);
    x.wish(3);
    x.image(0);
    x.wish(4);
    x.best();
    Due.rule(x, "need ?");
    Due.say(x, "look 5");
    x.image(1);
    for (int k = 0; k < 2; k++) {
      x.back(k);
      Due.is("the tape", x.count(7), 6);
      Due.is("the fault", x.fault(), 5);
      Due.is("the wishes", x.count(3), 2);
      Due.is("the latest best", x.night(1), 1);
    }
    x.clear();
    x.end(0);
    x.back(0);
    Due.is("the wishes don't come back", x.count(3), 0);
    Due.is("nor does the tape", x.count(7), 0);
    Due.is("the latest best stays", x.night(1), 1);
  }

  private static void kept() {
    Due.says("BACK to one all is as it was then (IMAGES stay)");
    CornerWinds x = Due.tower();
    x.image(0);
    Due.bolt(x, 47);
    x.plate(47, 4);
    x.stiff(47, 9);
    x.tier(5, 0, 20);
    x.tier(5, 1, 100_000);
    int[] most = {100_000, 100_000, 100, 10, 50, 100, 1000, 1000, 40}, first = {1000, 100, 10, 0, 0, 0, 1, 10, 1};
    for (int what = 0; what < 9; what++) x.terms(what, most[what]);
    for (int i = 0; i < 16; i++) x.wind(7, 100, 1);
    for (int i = 0; i < 7; i++) Due.rule(x, "edge");
    for (int i = 0; i < 59; i++) x.step(9999, 46, 1, 0, 0);
    for (int i = 0; i < 32; i++) x.street(7, 20, 1);
    for (int i = 0; i < 20; i++) Due.row(x, hours(1, 40, 100));
    for (int i = 0; i < 12; i++) x.tower(200, 100, 400, 10, 1);
    x.find(7, 7, 9999);
    x.image(1);
    int[] full = {16, 8, 60, 0, 32, 20, 12, 0}, empty = {0, 1, 0, 0, 0, 0, 0, 0};
    for (int round = 0; round < 2; round++) {
      Due.is("back to what was new", x.back(0), 0);
      for (int what = 0; what < 8; what++) Due.is("count of " + what, x.count(what), empty[what]);
      Due.is("welded", x.joint(47, 0) + x.joint(47, 1), 0);
      Due.is("stiff", x.joint(47, 3), 5);
      Due.is("holds", x.joint(47, 2), 1000);
      Due.is("unknown", x.knew(7, 7), -1);
      Due.is("a day ahead of the image's latest", x.step(0, 0, 0, 0, 0), 1);
      Due.is("back to what was full", x.back(1), 0);
      for (int what = 0; what < 8; what++) Due.is("count of " + what, x.count(what), full[what]);
      Due.is("bolted and mended", x.joint(47, 0) + x.joint(47, 1), 5);
      Due.is("stiff", x.joint(47, 3), 9);
      Due.is("known", x.knew(7, 7), 9999);
      Due.is("storms with all their hours", x.call(100), 20_000);
      Due.is("a day ahead of the latest", x.step(0, 0, 0, 0, 0), -3);
    }
    for (int what = 0; what < 9; what++) Due.is("terms " + what, x.terms(what, most[what]), most[what]);
    x.back(0);
    for (int what = 8; what >= 0; what--) Due.is("terms " + what, x.terms(what, first[what]), first[what]);
    Due.is("area and dead", x.tier(5, 0, 1) + x.tier(5, 1, 1), 10);
  }

  /** What stands in rows is written over between an image and going back to it. */
  private static void rowsComeBack() {
    Due.says("BACK to one all is as it was then");
    CornerWinds x = Due.tower();
    Due.areaOn(x, 0, 1);
    x.terms(2, 0);
    x.image(0);
    rows(x, 1);
    x.image(1);
    for (int round = 0; round < 2; round++) {
      x.back(0);
      rows(x, 2);
      Due.is("other rows", x.drawing(1, 1), 2);
      x.back(1);
      for (int i = 0; i < 2; i++) {
        int[] step = {i + 1, 1, 1, 1, 1, 1};
        for (int what = 0; what < 6; what++) Due.is("step " + i + ", " + what, x.drawing(i, what), step[what]);
        Due.is("wind " + i, x.tension(i, 0, 1), 10_000);
        Due.is("text " + i, x.need(1 + i, 0, 0), 1 + i);
      }
      Due.is("towers", x.first(3), 1);
      Due.is("storms at 10", x.call(10), 2);
      Due.is("storms at 11", x.call(11), 1);
      Due.is("storms at 12", x.call(12), 0);
      Due.is("a bolt", x.joint(1, 0), 1);
      Due.is("no other bolt", x.joint(2, 0), 0);
    }
  }

  private static void streetsComeBack() {
    Due.says("BACK to one all is as it was then");
    CornerWinds x = falling(0, 0);
    x.image(0);
    x.street(0, 1, 5);
    x.street(0, 2, 6);
    x.image(1);
    x.back(0);
    Due.is("none", x.under(0, 1), 0);
    x.street(0, 3, 70);
    x.street(0, 4, 80);
    Due.is("other ones", x.under(0, 1), 150);
    x.back(1);
    Due.is("as they were", x.under(0, 1), 11);
  }

  private static void textsComeBack() {
    Due.says("BACK to one all is as it was then");
    CornerWinds x = new CornerWinds();
    x.wind(0, 1, 1);
    x.image(0);
    for (int i = 0; i < 8; i++) Due.rule(x, "need " + (1 + i));
    x.image(1);
    x.back(0);
    for (int i = 0; i < 8; i++) Due.rule(x, "need 77");
    x.back(1);
    for (int i = 0; i < 8; i++) Due.is("text " + i, x.need(i, 0, 0), 1 + i);
    x.back(0);
    for (int i = 0; i < 8; i++) Due.is("no text " + i, x.need(i, 0, 0), -1);
  }

  private static void rows(CornerWinds x, int n) {
    for (int i = 0; i < 2; i++) {
      x.wind(0, 40 * n, n);
      Due.rule(x, "need " + (n == 1 ? 1 + i : 77));
    }
    Due.rule(x, "look age");
    for (int i = 0; i < 2; i++) {
      x.step(n + i, n, 1, n, n);
      Due.row(x, 0, 10 * n + i);
      x.tower(n, n == 1 ? i : 9 - i, 0, 0, 0);
    }
  }

  private static void backNumbers() {
    Due.says("BACK to IMAGE k: 0. -1; -2 it was not kept.");
    CornerWinds x = new CornerWinds();
    for (int k : new int[] {-1, 2, LEAST, MOST}) {
      Due.is("back to " + k, x.back(k), -1);
      Due.is("status", x.status(), -1);
    }
    for (int k = 0; k < 2; k++) {
      Due.is("not kept", x.back(k), -2);
      Due.is("status", x.status(), -2);
    }
    x.image(1);
    Due.is("the other one was not kept", x.back(0), -2);
    Due.is("this one was", x.back(1), 0);
    Due.is("status", x.status(), 0);
    x.image(0);
    Due.is("now it was", x.back(0), 0);
  }

  private static void counts() {
    Due.says("0 WINDS, 1 TEXTS, 2 STEPS, 3 WISHES, 4 STREETS, 5 STORMS, 6 TOWERS, 7 bytes of the TAPE. NONE for others.");
    CornerWinds x = Due.tower();
    for (int what : new int[] {-1, 8, LEAST, MOST}) Due.is("count of " + what, x.count(what), -1);
    x.wind(0, 1, 1);
    Due.rule(x, "edge");
    for (int joint = 0; joint < 4; joint++) Due.bolt(x, joint);
    for (int joint = 0; joint < 3; joint++) x.wish(joint);
    for (int i = 0; i < 5; i++) x.street(0, 1, 1);
    for (int i = 0; i < 6; i++) Due.row(x, 0, 1);
    for (int i = 0; i < 7; i++) x.tower(1, 0, 0, 0, 0);
    Due.put(x, 1, 2, 3, 4, 5, 6, 7, 8);
    int[] due = {1, 2, 4, 3, 5, 6, 7, 8};
    for (int what = 0; what < 8; what++) Due.is("count of " + what, x.count(what), due[what]);
  }

  /** Each call that status() is about: one that is done, and one that is refused. */
  private static int go(CornerWinds x, int call, boolean done) {
    switch (call) {
      case 0: return x.stiff(0, done ? 5 : 10);
      case 1: return x.tier(0, 0, done ? 10 : 21);
      case 2: return x.terms(5, done ? 0 : 101);
      case 3: return x.wind(0, done ? 1 : 101, 1);
      case 4: return x.plate(done ? 1 : 0, 1);
      case 5: return Due.rule(x, done ? "edge" : "edges");
      case 6: return x.step(5, 9, 0, 0, done ? 0 : 9);
      case 7: return x.wish(done ? 1 : 0);
      case 8: return x.find(0, 0, done ? 5 : -1);
      case 9: return x.tell(0, 1, 0, done ? 5 : 4);
      case 10: return x.street(0, done ? 1 : 0, 1);
      case 11: return Due.row(x, done ? 1 : 2, 5);
      case 12: return x.tower(done ? 1 : 0, 0, 0, 0, 0);
      case 13: return x.image(done ? 0 : 2);
      default: return x.back(done ? 0 : 1);
    }
  }

  private static void statusOfEach() {
    Due.says("What the latest call of stiff, tier, terms, wind, plate, rule, step, wish, find, tell, street, row, tower, image, back was REFUSED by; 0 if it was not, or ahead of any.");
    int[] by = {-1, -1, -1, -1, -3, -6, -2, -3, -1, -3, -1, -6, -1, -1, -2};
    Due.is("ahead of any", new CornerWinds().status(), 0);
    for (int call = 0; call < 15; call++) {
      CornerWinds x = Due.tower();
      Due.bolt(x, 1);
      x.find(0, 0, 5);
      x.image(0);
      Due.is("done, call " + call, go(x, call, true) >= 0 ? 0 : 1, 0);
      Due.is("status of a call that was done, " + call, x.status(), 0);
      Due.is("refused, call " + call, go(x, call, false), by[call]);
      Due.is("status of a call that was refused, " + call, x.status(), by[call]);
      Due.is("status asked again, " + call, x.status(), by[call]);
      if (call == 7) x.clear();
      Due.is("done again, call " + call, go(x, call, true) >= 0 ? 0 : 1, 0);
      Due.is("status of a call that was done again, " + call, x.status(), 0);
    }
  }

  private static void statusOfOthers() {
    Due.says("What the latest call of stiff, tier, terms, wind, plate, rule, step, wish, find, tell, street, row, tower, image, back was REFUSED by");
    for (int refused = 0; refused < 2; refused++) {
      CornerWinds x = Due.tower();
      x.wind(0, 1, 1);
      Due.bolt(x, 0);
      x.wish(0);
      int due = refused == 0 ? x.terms(1, 1001) : 0;
      for (int ok = 0; ok < 2; ok++) {
        int n = ok == 0 ? 0 : 99;
        long[] answers = {x.joint(n, 0), x.tension(n, 0, 0), x.goes(n, 0, 0), x.falls(n, 0), x.end(n), x.fault(), x.need(n, 0, 0), x.drawing(n, 0), x.saw(),
          x.odds(n), x.best(), x.night(n), x.low(), x.enough(n), x.move(), x.knew(n, 0), x.owed(n, 0, 0), x.under(n, 0), x.call(ok == 0 ? 0 : 101),
          x.when(), x.first(n), x.count(n), x.clear()};
        Due.is("status behind " + answers.length + " calls of others", x.status(), due);
      }
      for (int i = 0; i < 21; i++) x.feed(0, 0, 0, 0, 0);
      Due.is("a tape that is full", x.feed(0, 0, 0, 0, 0), -1);
      Due.is("status behind that", x.status(), due);
      Due.is("an end that can't be", x.end(401), -1);
      Due.is("status behind that", x.status(), due);
    }
  }

  private static void calls512() {
    Due.says("An object is used for at most 512 calls after it has been made");
    CornerWinds x = new CornerWinds();
    for (int i = 0; i < 510; i++) Due.is("call " + i, x.stiff(i % 48, 1 + i / 48 % 9), i < 48 ? 5 : 1 + (i / 48 - 1) % 9);
    Due.is("the call ahead of the last", x.wind(1, 100, 1), 0);
    Due.is("the last one", x.goes(0, 1, -1) >= 0 ? 1 : 0, 1);
  }
}
