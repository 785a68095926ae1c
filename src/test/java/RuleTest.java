/** Promises 11 to 15 and 37: the tape, texts and their faults, what they need and whom they look at first. */
public final class RuleTest {
  public static void main(String[] args) {
    feed();
    end();
    rule();
    faults();
    limits();
    sums();
    tests();
    longTexts();
    words();
    winds();
    need();
    first();
    Due.close("RuleTest");
  }

  private static void feed() {
    CornerWinds x = new CornerWinds();
    for (int n = 20; n <= 400; n += 20) Due.is("feed", x.feed(-1, 0, 1, 2, 3), n);
    Due.is("feed: no room", x.feed(0, 0, 0, 0, 0), -1);
    Due.is("feed: still as many", x.count(7), 400);
    Due.is("feed: one less", x.end(399), 399);
    Due.is("feed: no room for all", x.feed(0, 0, 0, 0, 0), -1);
    Due.is("feed: no status", x.status(), 0);
    x = new CornerWinds();
    // The highest byte first: a row of 1, then 2, 3, 4 and so on.
    x.feed(0x01020304, 0x05060708, 0x090A0B0C, 0x0D0E0F10, 0x11121314);
    x.row();
    for (int limit = 2; limit <= 20; limit++) {
      x.terms(8, 21 - limit);
      Due.is("feed: in time", x.call(limit), 1);
      x.terms(8, 22 - limit);
      Due.is("feed: too late", x.call(limit), 11);
    }
    x.feed(0xFFFFFFFF, 0, 0, 0, 0);
    Due.is("feed: a byte above 127 is one above 127", x.row(), -6);
  }

  private static void end() {
    CornerWinds x = new CornerWinds();
    Due.is("end: empty", x.end(0), 0);
    Due.is("end: not so many", x.end(1), -1);
    x.feed(0, 0, 0, 0, 0);
    Due.is("end: below 0", x.end(-1), -1);
    Due.is("end: not so many", x.end(21), -1);
    Due.is("end: all", x.end(20), 20);
    Due.is("end: some", x.end(7), 7);
    Due.is("end: gone", x.end(8), -1);
    Due.is("end: count", x.count(7), 7);
    Due.is("end: behind them", x.feed(0, 0, 0, 0, 0), 27);
  }

  private static void rule() {
    CornerWinds x = new CornerWinds();
    for (int i = 0; i < 8; i++) {
      Due.is("rule: number", Due.rule(x, "need 5"), i);
      Due.is("rule: the tape is empty", x.count(7), 0);
      Due.is("rule: no fault", x.fault(), -1);
      Due.is("rule: one that can't be", i == 7 ? -6 : Due.rule(x, "need"), -6);
      Due.is("rule: the tape is empty then, too", x.count(7), 0);
      Due.is("rule: status", i == 7 ? -6 : x.status(), -6);
    }
    Due.is("rule: count", x.count(1), 8);
    Due.is("rule: a ninth", Due.rule(x, "need"), -5);
    Due.is("rule: status", x.status(), -5);
    Due.is("rule: not read", x.fault(), -1);
    Due.is("rule: the tape is empty without room, too", x.count(7), 0);
    Due.is("rule: a tenth, of a tape that is empty", x.rule(), -5);
    Due.say(x, "need 5");
    Due.is("rule: a text that can be", x.rule(), -5);
    Due.is("rule: the tape is empty behind that, too", x.feed(0, 0, 0, 0, 0), 20);
    faultStaysWithoutRoom();
  }

  private static void faultStaysWithoutRoom() {
    CornerWinds x = new CornerWinds();
    for (int i = 0; i < 7; i++) Due.rule(x, "need 5");
    x.image(0);
    Due.rule(x, "need 5");
    x.image(1);
    x.back(0);
    Due.is("rule: one that can't be", Due.rule(x, "need 5 if if"), -6);
    x.back(1);
    Due.is("rule: no room", Due.rule(x, "need"), -5);
    Due.is("rule: the fault of the latest that was read", x.fault(), 10);
    Due.is("rule: the tape is empty", x.count(7), 0);
  }

  private static void isFault(String text, int place) {
    CornerWinds x = new CornerWinds();
    Due.is("\"" + text + "\"", Due.rule(x, text), place == -1 ? 0 : -6);
    Due.is("fault of \"" + text + "\"", x.fault(), place);
  }

  private static void faults() {
    String[] good = {"need 5", "  need  5  ", "need5", "look 3;edge;need 4", "need 100000", "need 0000000000000000000100000",
      "edge if not not face", "edge if [load]>1", "edge if(welded)", "need 5 if [1]=[1]and face or not bolted",
      "need [[[1]]]*2", "edge if 1+2<3*4", "need load+dead+tier+side+day+holds+leg+floors+age+braces",
      "edge if welded and bolted or mended and face", "edge if ((1=1))"};
    for (String text : good) isFault(text, -1);
    isFault("", 0);
    isFault("   ", 3);
    isFault("need", 4);
    isFault("need  ", 6);
    isFault("needs 5", 0);
    isFault("needneed 5", 0);
    isFault("needz 5", 0);
    isFault("aneed 5", 0);
    isFault("xeed 5", 0);
    isFault("nee 5", 0);
    isFault("need{5", 4);
    isFault("need`5", 4);
    isFault("need :", 5);
    isFault("Need 5", 0);
    isFault(" 5", 1);
    isFault("if face", 0);
    isFault("need 100001", 5);
    isFault("need 99999999999999999999", 5);
    isFault("need load5", 9);
    isFault("need 5load", 6);
    isFault("need 5 need 6", 7);
    isFault("need 5;", 7);
    isFault("need 5; ;edge", 8);
    isFault("need 5\t", 6);
    isFault("need \u00e9", 5);
    isFault("need (5)", 5);
    isFault("need [5", 7);
    isFault("need [5)", 7);
    isFault("need -5", 5);
    isFault("need 5+", 7);
    isFault("need face", 5);
    isFault("need 5 if", 9);
    isFault("need if face", 5);
    isFault("need 5 if load", 14);
    isFault("need 5 if 1 < 2 < 3", 16);
    isFault("need 5 if face and", 18);
    isFault("need 5 if face or if", 18);
    isFault("edge 5", 5);
    isFault("edge if (face", 13);
    isFault("edge if face)", 12);
    isFault("edge if (load) > 1", 13);
    isFault("edge if [face]", 9);
    isFault("edge if not", 11);
    isFault("edge if not [1]", 15);
    isFault("edge if face = 1", 13);
    isFault("edge if 1 = face", 12);
    isFault("edge if face face", 13);
    isFault("edge if floorss > 1", 8);
  }

  private static void limits() {
    isFault("edge;".repeat(11) + "edge", -1);
    isFault("edge;".repeat(12) + "edge", 60);
    isFault("edge;".repeat(12) + "  edge", 62);
    isFault("edge;".repeat(12), 60);
    isFault("need 1" + "+1".repeat(49), -1);
    isFault("need 1" + "+1".repeat(50), 105);
    isFault("need 1" + "+1".repeat(47) + " if face;edge if bolted", -1);
    isFault("need 1" + "+1".repeat(47) + " if face;edge if bolted or mended", 127);
    isFault("need " + "[".repeat(8) + "1" + "]".repeat(8), -1);
    isFault("need " + "[".repeat(9) + "1" + "]".repeat(9), 13);
    isFault("edge if " + "(".repeat(5) + "[[[1]]]=2" + ")".repeat(5), -1);
    isFault("edge if " + "(".repeat(5) + "[[[[1]]]]=2" + ")".repeat(5), 16);
    isFault("edge if " + "(".repeat(9) + "face" + ")".repeat(9), 16);
    isFault("need [1]" + "+[[1]]".repeat(12), -1);
    isFault("edge if " + "not ".repeat(97) + "face", -1);
  }

  /** What a sum is, asked of joint 0 on day 0 by one wind on a face. */
  private static void needs(String text, int told) {
    CornerWinds x = new CornerWinds();
    x.wind(0, 1, 1);
    Due.is("\"" + text + "\"", Due.rule(x, text), 0);
    Due.is("need of \"" + text + "\"", x.need(0, 0, 0), told);
  }

  private static void sums() {
    needs("need 7", 7);
    needs("need 2+3*4", 14);
    needs("need 20-3-4", 13);
    needs("need 10-[4-3]", 9);
    needs("need 100/10/2", 5);
    needs("need 7/2", 3);
    needs("need [0-7]/2+10", 7);
    needs("need 7/[0-2]+10", 7);
    needs("need 0-5", 0);
    needs("need 100000*10000", 1_000_000_000);
    needs("need 100000*10000+1", 0);
    needs("need 100000*10000+1-1", 0);
    needs("need 5;need [0-100000]*10000+6", 0);
    needs("need 5;need [0-100000]*10000-1", 5);
    needs("need 5;need 1/0", 5);
    needs("need 5;need 0*[1/[1-1]]", 5);
    needs("need 7;need 3", 3);
    needs("look 7", 0);
    needs("edge", 0);
  }

  private static void tests() {
    needs("need 7;need 3 if bolted", 7);
    needs("need 7;need 3 if not bolted", 3);
    needs("need 7;need 3 if not not bolted", 7);
    needs("need 1 if 1<2", 1);
    needs("need 1 if 2<2", 0);
    needs("need 1 if 2>2", 0);
    needs("need 1 if 3>2", 1);
    needs("need 1 if 2=2", 1);
    needs("need 1 if 2=3", 0);
    needs("need 1 if 1/0=1 or face", 0);
    needs("need 1 if face or 1/0=1", 1);
    needs("need 1 if bolted and 1/0=1 or face", 1);
    needs("need 1 if 1/0=1 and bolted or face", 0);
    needs("need 1 if face and 1/0=1 or face", 0);
    needs("need 1 if not 1/0=1", 0);
    needs("need 1 if not(bolted or 1/0=1)", 0);
    needs("need 1 if not(face and bolted)", 1);
    needs("need 1 if face or bolted and bolted", 1);
    needs("need 1 if (face or bolted) and bolted", 0);
    needs("need 1 if not bolted and face", 1);
    needs("need 1 if not bolted or 1/0=1 or 2/0=1", 1);
    needs("need 1 if bolted or mended or face and welded", 1);
    needs("need 1 if 1<2 or 1/0=1", 1);
    needs("need 1 if 2>1 or 1/0=1", 1);
    needs("need 1 if 2=2 or 1/0=1", 1);
    needs("need 1 if welded or 1/0=1", 1);
    needs("need 5;need 1 if 2<1 and 1/0=1", 5);
    needs("need 1 if not(2<1 and 1/0=1)", 1);
  }

  /** All clauses and all orders count, up to the limits. */
  private static void longTexts() {
    needs("edge;".repeat(11) + "need 7", 7);
    needs("need 7;" + "edge;".repeat(10) + "look 3", 7);
    needs("need 1" + "+1".repeat(49), 50);
    String nots = "not(".repeat(8), closed = ")".repeat(8);
    String group = nots + "face" + closed;
    needs("need 1" + "+1".repeat(44) + " if " + (group + "and ").repeat(4) + group, 45);
    needs("need 1" + "+1".repeat(44) + " if " + (group + "and ").repeat(4) + nots + "bolted" + closed, 0);
    needs("need 9 if " + "not ".repeat(96) + "face", 9);
    needs("need 9 if " + "not ".repeat(95) + "face", 0);
    CornerWinds x = new CornerWinds();
    x.wind(0, 1, 1);
    Due.say(x, "need 57+load");
    Due.is("end", x.end(6), 6);
    Due.is("rule: what is cut off is not read", x.rule(), 0);
    Due.is("need: what is cut off is not read", x.need(0, 0, 0), 5);
    Due.say(x, "need leggy");
    Due.is("end", x.end(8), 8);
    Due.is("rule: nor are letters", x.rule(), 1);
  }

  private static void words() {
    CornerWinds x = Due.tower();
    Due.areaOn(x, 3, 1);
    x.terms(2, 0);
    x.wind(0, 90, 1);
    x.tier(3, 1, 200);
    x.terms(3, 6);
    // The south face of tier 3: its left brace bears 22.5, its right one less that.
    String[] asked = {"load", "dead", "tier", "side", "day", "holds", "leg", "floors+age+braces", "0-load"};
    int[] left = {22, 200, 3, 2, 77, 1000, 6, 0, 0}, right = {0, 200, 3, 2, 77, 1000, 6, 0, 22};
    for (int i = 0; i < asked.length; i++) {
      CornerWinds y = x;
      y.image(0);
      Due.is("rule", Due.rule(y, "need " + asked[i]), 1);
      Due.is("need " + asked[i], y.need(1, 28, 77), left[i]);
      Due.is("need " + asked[i] + " of the right one", y.need(1, 29, 77), right[i]);
      y.back(0);
    }
    Due.is("rule", Due.rule(x, "need 1 if welded;need 2 if bolted;need 3 if mended"), 1);
    Due.is("need: welded", x.need(1, 28, 0), 1);
    Due.bolt(x, 28);
    Due.is("need: bolted", x.need(1, 28, 0), 2);
    x.plate(28, 1);
    Due.is("need: mended", x.need(1, 28, 0), 3);
    Due.is("rule", Due.rule(x, "need 4 if mended or 1/0=1"), 2);
    Due.is("need: mended, nothing behind it is asked", x.need(2, 28, 0), 4);
    x.plate(28, 0);
    Due.is("need: not mended", x.need(1, 28, 0), 2);
    Due.is("rule", Due.rule(x, "need holds"), 3);
    x.plate(28, 1);
    Due.is("need: what it holds", x.need(3, 28, 0), 325);
    x.terms(4, 50);
    Due.is("rule", Due.rule(x, "need load"), 4);
    Due.is("need: with current", x.need(4, 28, 0), 11);
  }

  private static void winds() {
    CornerWinds x = new CornerWinds();
    Due.areaOn(x, 0, 1);
    x.terms(2, 0);
    String[] texts = {"need load", "need load;edge", "need load;edge if load>50", "need load;edge if face", "need 9 if face;need 4 if not face;edge"};
    for (int i = 0; i < texts.length; i++) Due.is("rule", Due.rule(x, texts[i]), i);
    Due.is("need: no wind", x.need(1, 0, 0), 0);
    x.wind(1, 100, 1);
    Due.is("need: across an edge is not asked for", x.need(0, 0, 0), 0);
    Due.is("need: it is with an edge", x.need(1, 0, 0), 17);
    x.wind(0, 40, 1);
    Due.is("need: on a face", x.need(0, 0, 0), 10);
    Due.is("need: the greatest", x.need(1, 0, 0), 17);
    Due.is("need: an edge that does not hold", x.need(2, 0, 0), 10);
    Due.is("need: it is asked for that wind", x.need(3, 0, 0), 10);
    Due.is("need: each wind by itself", x.need(4, 0, 0), 9);
    x.tier(0, 0, 4);
    Due.is("need: an edge that holds", x.need(2, 0, 0), 70);
    x.wind(4, 100, 1);
    Due.is("need: the other way is less", x.need(0, 0, 0), 40);
    Due.is("need: the other way is more for the right one", x.need(0, 1, 0), 100);
  }

  private static void need() {
    CornerWinds x = new CornerWinds();
    x.wind(0, 1, 1);
    Due.is("need: no text", x.need(0, 0, 0), -1);
    Due.is("rule", Due.rule(x, "need day+tier"), 0);
    Due.is("need: the last of all", x.need(0, 47, 9999), 10_004);
    int[][] wrong = {{-1, 0, 0}, {1, 0, 0}, {0, -1, 0}, {0, 48, 0}, {0, 0, -1}, {0, 0, 10_000}};
    for (int[] w : wrong) Due.is("need: none", x.need(w[0], w[1], w[2]), -1);
    Due.is("need: no status", x.status(), 0);
  }

  private static void first() {
    CornerWinds x = new CornerWinds();
    x.terms(3, 9);
    String[] texts = {"look floors", "look 0-floors", "look age*10+leg", "look braces if bolted", "look 1 if not bolted",
      "look 1 if welded or mended or face", "look load+dead+tier+side+day+holds", "need 5;edge", "look 1;look floors/[age-3]", "look 2 if leg=9"};
    for (int i = 0; i < 8; i++) Due.is("rule", Due.rule(x, texts[i]), i);
    Due.is("first: no towers", x.first(0), -1);
    x.tower(10, 3, 7, 0, 0);
    x.tower(50, 2, 5, 10, 1);
    x.tower(50, 4, 5, 1, 1);
    int[] due = {1, 0, 2, 1, 0, -1, 0, -1};
    for (int i = 0; i < 8; i++) Due.is("first by \"" + texts[i] + "\"", x.first(i), due[i]);
    x.image(0);
    x = new CornerWinds();
    x.tower(10, 3, 7, 0, 0);
    x.tower(50, 2, 5, 10, 1);
    x.tower(50, 4, 5, 1, 1);
    Due.is("rule", Due.rule(x, texts[8]), 0);
    Due.is("first: a broken one leaves the one ahead", x.first(0), 2);
    Due.is("rule", Due.rule(x, texts[9]), 1);
    Due.is("first: the leg is the other tower's", x.first(1), -1);
    Due.is("first: no text", x.first(2), -1);
    Due.is("first: no text", x.first(-1), -1);
  }
}
