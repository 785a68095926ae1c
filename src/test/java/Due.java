/** What a handwritten test is made of: calls with the answers that are due, and a count of those that are not. */
final class Due {
  private static int asked = 0, wrong = 0;
  private static String sentence = "";

  private Due() { }

  /** The document's words that the answers from here on are about; SentencesTest looks them up there. */
  static void says(String words) { sentence = " [" + words + "]"; }

  static void is(String what, long got, long want) {
    asked++;
    if (got != want) {
      wrong++;
      System.out.println(what + " answered " + got + ", due is " + want + sentence);
    }
  }

  /** Answers of calls in a row. */
  static void are(String what, long[] got, long... want) {
    is(what + ": how many", got.length, want.length);
    for (int i = 0; i < Math.min(got.length, want.length); i++) is(what + ": the one at " + i, got[i], want[i]);
  }

  /** Ends the test: exit code 1 if an answer was wrong. */
  static void close(String name) {
    System.out.println(name + ": " + asked + " answers, " + wrong + " wrong");
    if (wrong > 0 || asked == 0) System.exit(1);
  }

  /** Puts a text on the tape behind what is there. */
  static void say(CornerWinds x, String text) {
    int[] bytes = new int[text.length()];
    for (int i = 0; i < bytes.length; i++) bytes[i] = text.charAt(i);
    put(x, bytes);
  }

  static void put(CornerWinds x, int... bytes) {
    int had = x.count(7);
    for (int from = 0; from < bytes.length; from += 20) {
      int[] n = new int[5];
      for (int i = 0; i < 20; i++) n[i / 4] = n[i / 4] << 8 | (from + i < bytes.length ? bytes[from + i] & 255 : 0);
      is("feed", x.feed(n[0], n[1], n[2], n[3], n[4]), had + from + 20);
    }
    is("end", x.end(had + bytes.length), had + bytes.length);
  }

  static int rule(CornerWinds x, String text) {
    say(x, text);
    return x.rule();
  }

  static int row(CornerWinds x, int... bytes) {
    put(x, bytes);
    return x.row();
  }

  /** A tower with a text 0 that asks for nothing, so that joints can be bolted. */
  static CornerWinds tower() {
    CornerWinds x = new CornerWinds();
    is("rule", rule(x, "need 0"), 0);
    return x;
  }

  static void bolt(CornerWinds x, int... joints) {
    for (int joint : joints) is("step", x.step(0, joint, 1, 0, 0), 1);
  }

  static long[] gone(CornerWinds x, int wind, int current) {
    long[] joints = new long[Math.max(0, x.goes(wind, current, -1))];
    for (int i = 0; i < joints.length; i++) joints[i] = x.goes(wind, current, i);
    return joints;
  }

  /** Area on one tier alone. */
  static void areaOn(CornerWinds x, int tier, int area) {
    for (int t = 0; t < 6; t++) x.tier(t, 0, t == tier ? area : 0);
  }
}
