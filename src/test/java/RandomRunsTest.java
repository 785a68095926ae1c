import java.util.Random;

/** Runs of calls by chance (the same each time), held against the oracle. */
public final class RandomRunsTest {
  private static final int MOST_CALLS = 512;
  private final Random chance;
  private final RuleMaker rules;
  private final Both both = new Both();
  private final int theme, odd;

  private RandomRunsTest(long seed) {
    chance = new Random(seed);
    rules = new RuleMaker(chance);
    theme = chance.nextInt(6);
    odd = new int[] {4, 12, 60}[chance.nextInt(3)];
  }

  public static void main(String[] args) {
    int runs = args.length > 0 ? Integer.parseInt(args[0]) : 400;
    long from = args.length > 1 ? Long.parseLong(args[1]) : 1;
    int calls = 0;
    for (long seed = from; seed < from + runs; seed++) {
      RandomRunsTest run = new RandomRunsTest(seed);
      run.run();
      calls += run.both.made();
      if (run.both.wrong) {
        System.out.println("in the run of seed " + seed);
        System.exit(1);
      }
    }
    System.out.println(runs + " runs, " + calls + " calls are as the oracle answers");
  }

  private void run() {
    if (chance.nextInt(5) > 0) setUp();
    int calls = 30 + chance.nextInt(100);
    for (int i = 0; i < calls && both.made() < MOST_CALLS - 40 && !both.wrong; i++) {
      switch (chance.nextInt(5) == 0 ? chance.nextInt(6) : theme) {
        case 0 -> build();
        case 1 -> blow();
        case 2 -> rule();
        case 3 -> mend();
        case 4 -> storm();
        default -> know();
      }
      if (chance.nextInt(25) == 0) both.go(chance.nextBoolean() ? "image" : "back", pick(0, 1));
      if (chance.nextInt(5) == 0) both.go("status");
      if (chance.nextInt(20) == 0) both.go("count", pick(0, 7));
    }
  }

  /** A tower near its limits, so that some joints go and some winds fell it. */
  private void setUp() {
    int winds = 1 + chance.nextInt(chance.nextInt(6) == 0 ? 16 : 4);
    for (int i = 0; i < winds; i++) both.go("wind", chance.nextInt(8), 1 + chance.nextInt(100), 1 + chance.nextInt(1_000_000));
    for (int i = chance.nextInt(12); i > 0; i--) both.go("stiff", chance.nextInt(48), 1 + chance.nextInt(9));
    for (int t = 0; t < 6; t++) {
      if (chance.nextBoolean()) both.go("tier", t, 0, chance.nextInt(21));
      if (chance.nextInt(3) == 0) both.go("tier", t, 1, chance.nextInt(300));
    }
    if (chance.nextBoolean()) both.go("terms", 0, 100 + chance.nextInt(1500));
    if (chance.nextBoolean()) both.go("terms", 2, chance.nextInt(60));
    if (chance.nextBoolean()) both.go("terms", 3, chance.nextInt(11));
    if (chance.nextBoolean()) both.go("terms", 4, chance.nextInt(51));
    if (chance.nextBoolean()) both.go("terms", 5, chance.nextInt(101));
    both.write("need load*15/10; edge if tier<2; look floors-age*3 if bolted; look braces if leg>5 or age/leg=1");
    both.go("rule");
    int bolts = chance.nextInt(30);
    int tier = chance.nextBoolean() ? -1 : chance.nextInt(6);
    for (int i = 0; i < bolts; i++) {
      int joint = tier < 0 ? chance.nextInt(48) : 8 * tier + chance.nextInt(8);
      both.go("step", i, joint, chance.nextInt(6) == 0 ? 0 : 1, chance.nextInt(8), 0);
      if (chance.nextInt(3) == 0) both.go("plate", joint, chance.nextInt(5));
    }
  }

  /** A number of a range, now and then its edge or one beyond it. */
  private int pick(int low, int high) {
    if (chance.nextInt(odd) == 0) {
      int[] beyond = {low - 1, high + 1, Integer.MIN_VALUE, Integer.MAX_VALUE, -1};
      return beyond[chance.nextInt(beyond.length)];
    }
    if (high < low) return low;
    return chance.nextInt(6) == 0 ? chance.nextBoolean() ? low : high : low + chance.nextInt(high - low + 1);
  }

  private int many(int what) { return (int) both.go("count", what); }

  private int wind() { return pick(0, many(0) - 1); }

  private void build() {
    switch (chance.nextInt(7)) {
      case 0 -> both.go("stiff", pick(0, 47), pick(1, 9));
      case 1 -> { int what = pick(0, 1); both.go("tier", pick(0, 5), what, what == 0 ? pick(0, 20) : pick(0, chance.nextBoolean() ? 400 : 100_000)); }
      case 2 -> {
        int[] most = {100_000, 100_000, 100, 10, 50, 100, 1000, 1000, 40};
        int what = pick(0, 8);
        int high = what >= 0 && what < 9 ? most[what] : 5;
        both.go("terms", what, pick(what < 2 || what == 8 ? 1 : 0, what < 2 && chance.nextBoolean() ? 1200 : high));
      }
      case 3 -> both.go("wind", pick(0, 7), pick(1, 100), pick(1, 1_000_000));
      case 4 -> both.go("plate", pick(0, 47), pick(0, 4));
      case 5 -> both.go("joint", pick(0, 47), pick(0, 3));
      default -> both.go("tension", wind(), pick(0, 47), pick(0, 1));
    }
  }

  private void blow() {
    switch (chance.nextInt(10)) {
      case 0 -> build();
      case 1 -> both.go("tension", wind(), pick(0, 47), pick(0, 1));
      case 2, 3 -> {
        int wind = wind(), current = pick(0, 1);
        long n = both.go("goes", wind, current, -1);
        for (int i = 0; i < n && i < 4; i++) both.go("goes", wind, current, pick(0, (int) n - 1));
      }
      case 4 -> both.go("falls", wind(), pick(0, 1));
      case 5 -> both.go("under", wind(), pick(0, 1));
      case 6 -> both.go("odds", pick(0, 2));
      case 7 -> both.go("enough", pick(0, 47));
      case 8 -> { if (many(0) <= 6) both.go("move"); }
      default -> both.go("street", pick(0, 7), pick(1, 20), pick(0, 10_000));
    }
  }

  private void rule() {
    switch (chance.nextInt(9)) {
      case 0, 1 -> {
        if (chance.nextInt(8) > 0) both.go("end", 0);
        if (both.write(rules.make())) both.go("rule");
        both.go("fault");
      }
      case 2 -> both.go("feed", chance.nextInt(), chance.nextInt(), 0x6E656564, 0x20352020, chance.nextInt());
      case 3, 4 -> both.go("need", pick(0, many(1) - 1), pick(0, 47), pick(0, 9999));
      case 5, 6 -> {
        int steps = many(2);
        int day = steps == 0 ? 0 : (int) both.go("drawing", steps - 1, 0);
        both.go("step", pick(day, Math.min(day + 3, 9999)), pick(0, 47), pick(0, 1), pick(0, 7), pick(0, many(1) - 1));
      }
      case 7 -> both.go("drawing", pick(0, many(2) - 1), pick(0, 5));
      default -> { if (many(0) <= 6) both.go("saw"); else both.go("end", pick(0, many(7))); }
    }
  }

  private void mend() {
    switch (chance.nextInt(8)) {
      case 0, 1, 2 -> {
        int steps = many(2);
        both.go("wish", steps == 0 || chance.nextInt(5) == 0 ? pick(0, 47) : (int) both.go("drawing", pick(0, steps - 1), 1));
      }
      case 3 -> {
        if (many(3) * many(0) > 12) return;
        both.go("best");
        for (int night = 0; night < many(3); night++) both.go("night", night);
      }
      case 4 -> { if (many(3) * many(0) <= 12) both.go("low"); }
      case 5 -> both.go("night", pick(0, 8));
      case 6 -> { if (chance.nextInt(4) == 0) both.go("clear"); }
      default -> { build(); both.go("odds", pick(0, 2)); }
    }
  }

  private void storm() {
    switch (chance.nextInt(7)) {
      case 0, 1 -> {
        int[] bytes = new int[chance.nextInt(12) == 0 ? 39 + chance.nextInt(4) : chance.nextInt(12)];
        for (int i = 1; i < bytes.length; i++) bytes[i] = chance.nextInt(3) == 0 ? 100 + chance.nextInt(3) : chance.nextInt(110);
        if (bytes.length > 0) bytes[0] = chance.nextInt(10) == 0 ? 2 : chance.nextInt(2);
        if (chance.nextInt(8) > 0) both.go("end", 0);
        if (both.write(bytes)) both.go("row");
      }
      case 2 -> both.go("call", pick(0, 100));
      case 3 -> both.go("when");
      case 4 -> both.go("terms", pick(6, 8), pick(1, 20));
      case 5 -> both.go("tower", pick(1, 200), pick(0, 100), pick(0, 400), pick(0, 10), pick(0, 1));
      default -> both.go("first", pick(0, many(1) - 1));
    }
  }

  private void know() {
    int most = chance.nextInt(3) == 0 ? 7 : 2;
    switch (chance.nextInt(5)) {
      case 0 -> both.go("find", pick(0, most), pick(0, most), pick(0, chance.nextBoolean() ? 40 : 9999));
      case 1, 2 -> both.go("tell", pick(0, most), pick(0, most), pick(0, most), pick(0, chance.nextBoolean() ? 60 : 9999));
      case 3 -> both.go("knew", pick(0, most), pick(0, most));
      default -> both.go("owed", pick(0, most), pick(0, chance.nextBoolean() ? 60 : 9999), pick(0, chance.nextBoolean() ? 50 : 9999));
    }
  }
}
