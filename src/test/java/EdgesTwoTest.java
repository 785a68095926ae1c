/** Terms II and promises 11 to 18: for each sentence that names an edge a test at the edge and one beyond it. */
public final class EdgesTwoTest {
  private static final int LEAST = Integer.MIN_VALUE, MOST = Integer.MAX_VALUE;
  private static final String[] PARTS = {"load", "dead", "tier", "side", "day", "holds", "leg", "floors", "age", "braces"};
  private static final String[] PLAINS = {"welded", "bolted", "mended", "face"};

  public static void main(String[] args) {
    eightTexts();
    longestText();
    bytesBetween();
    bytesBehindNumbers();
    bytesAhead();
    wordsAreWhole();
    twelveClauses();
    clauseForms();
    testForms();
    plainForms();
    sumForms();
    numbers();
    fiftyLeaves();
    notLeaves();
    eightBrackets();
    faultAtTheEnd();
    load();
    wordsOfAJoint();
    wordsOfATower();
    beyond();
    divided();
    clauseHolds();
    lazy();
    need();
    needOfAllWinds();
    let();
    sixtySteps();
    days();
    stepNumbers();
    noPlate();
    doneAllTheSame();
    seen();
    seenAtTheEdges();
    seenOnceMore();
    seenWhileAnotherEnds();
    notSeenBehindTheLast();
    feed();
    end();
    ruleAndTape();
    fault();
    needWithout();
    drawing();
    drawnAsItWas();
    Due.close("EdgesTwoTest");
  }

  private static void fault(String text, int place) {
    CornerWinds x = new CornerWinds();
    Due.is("\"" + text + "\"", Due.rule(x, text), place == -1 ? 0 : -6);
    Due.is("fault of \"" + text + "\"", x.fault(), place);
    Due.is("texts behind \"" + text + "\"", x.count(1), place == -1 ? 1 : 0);
  }

  private static void good(String text) { fault(text, -1); }

  /** What a text needs of joint 0 on day 0 by one wind on a face. */
  private static void needs(String text, int told) {
    CornerWinds x = new CornerWinds();
    x.wind(0, 1, 1);
    Due.is("\"" + text + "\"", Due.rule(x, text), 0);
    Due.is("need of \"" + text + "\"", x.need(0, 0, 0), told);
  }

  private static void eightTexts() {
    Due.says("RULES are TEXTS, 8 at most");
    CornerWinds x = new CornerWinds();
    x.wind(0, 1, 1);
    for (int i = 0; i < 8; i++) {
      Due.is("no such text yet", x.need(i, 0, 0), -1);
      Due.is("text", Due.rule(x, "need " + (10 + i)), i);
    }
    Due.is("a ninth", Due.rule(x, "need 18"), -5);
    Due.is("count", x.count(1), 8);
    for (int i = 0; i < 8; i++) Due.is("need by text " + i, x.need(i, 0, 0), 10 + i);
    Due.is("none behind them", x.need(8, 0, 0), -1);
    Due.is("none behind them", x.first(8), -1);
    Due.is("none behind them", x.step(0, 0, 1, 0, 8), -2);
  }

  private static void longestText() {
    Due.says("on a TAPE of at most 400 bytes");
    needs("need" + " ".repeat(395) + "7", 7);
    needs("need" + " ".repeat(394) + "77", 77);
    fault("need" + " ".repeat(396), 400);
    fault("need 7" + " ".repeat(393) + ";", 400);
    fault("need 7" + " ".repeat(393) + "7", 399);
    fault(" ".repeat(400), 400);
    good(" ".repeat(396) + "edge");
    good("need " + "0".repeat(394) + "1");
    fault("a".repeat(400), 0);
    fault("need " + "9".repeat(395), 5);
  }

  private static void bytesBetween() {
    Due.says("TOKENS: longest rows of letters a .. z, of digits, single other bytes, any blanks (32) between.");
    for (int b = 0; b < 256; b++) {
      boolean letter = b >= 'a' && b <= 'z', goesOn = b == ' ' || b >= '0' && b <= '9';
      fault("need" + (char) b + "5", letter ? 0 : b == '[' ? 6 : goesOn ? -1 : 4);
    }
  }

  private static void bytesBehindNumbers() {
    Due.says("longest rows of letters a .. z, of digits, single other bytes");
    for (int b = 0; b < 256; b++) {
      boolean goesOn = "+-*/".indexOf(b) >= 0 || b >= '0' && b <= '9';
      fault("need 5" + (char) b + "5", b == ' ' || b == ';' ? 7 : goesOn ? -1 : 6);
    }
    good("need5if5=5");
    good("need 5if 5=5or face");
    good(" need  5  if ( face ) ; edge ");
    fault("need 5i f face", 6);
    fault("need 1 00 000", 7);
    needs("need 12;need 13", 13);
  }

  /** No byte by itself is a word, the last one (255) neither. */
  private static void bytesAhead() {
    Due.says("single other bytes, any blanks (32) between");
    for (int b = 0; b < 256; b++) {
      String one = String.valueOf((char) b);
      boolean blank = b == ' ', digit = b >= '0' && b <= '9';
      fault(one, blank ? 1 : 0);
      fault(one + " 5", blank ? 2 : 0);
      fault("need 5 " + one, blank ? -1 : "+-*/;".indexOf(b) >= 0 ? 8 : 7);
      fault("need " + one, digit ? -1 : blank || b == '[' ? 6 : 5);
      fault("edge if " + one, blank || digit || b == '(' || b == '[' ? 9 : 8);
      fault("edge if face " + one, blank ? -1 : b == ';' ? 14 : 13);
    }
  }

  private static void wordsAreWhole() {
    Due.says("longest rows of letters a .. z");
    for (String part : PARTS) {
      good("need " + part);
      fault("need " + part + "s", 5);
      fault("need a" + part, 5);
      fault("need " + part.substring(0, part.length() - 1), 5);
      fault("need " + part + " " + part, 6 + part.length());
    }
    for (String plain : PLAINS) {
      good("edge if " + plain);
      fault("edge if " + plain + "s", 8);
      fault("edge if a" + plain, 8);
      fault("edge if " + plain.substring(0, plain.length() - 1), 8);
    }
    for (String word : new String[] {"need", "look", "edge"}) changed("", word, word.equals("edge") ? "" : " 5");
    for (String part : PARTS) changed("need ", part, "");
    for (String plain : PLAINS) changed("edge if ", plain, "");
    changed("edge ", "if", " face");
    changed("edge if ", "not", " face");
    changed("edge if face ", "or", " face");
    changed("edge if face ", "and", " face");
    for (String head : new String[] {"nee", "needs", "loo", "looks", "edg", "edges", "NEED", "Need"}) fault(head + " 5", 0);
    for (String join : new String[] {"o", "ors", "an", "ands", "nd", "r"}) fault("edge if face " + join + " face", 13);
    for (String no : new String[] {"no", "nots", "ot"}) fault("edge if " + no + " face", 8);
    for (String iff : new String[] {"i", "f", "ifs", "iff"}) fault("edge " + iff + " face", 5);
  }

  /** A word with any one letter another one is none. */
  private static void changed(String ahead, String word, String behind) {
    good(ahead + word + behind);
    for (int i = 0; i < word.length(); i++) fault(ahead + word.substring(0, i) + 'q' + word.substring(i + 1) + behind, ahead.length());
  }

  private static void twelveClauses() {
    Due.says("CLAUSE {\";\" CLAUSE}, 12 at most (FAULT at the 13th's first TOKEN)");
    good("edge" + ";edge".repeat(11));
    fault("edge" + ";edge".repeat(12), 60);
    fault("edge" + ";edge".repeat(13), 60);
    fault("edge" + ";edge".repeat(11) + " ;  edge", 63);
    fault("edge" + ";edge".repeat(11) + ";", 60);
    fault("edge" + ";edge".repeat(11) + "; ", 61);
    fault("edge" + ";edge".repeat(11) + ";;", 60);
    fault("edge" + ";edge".repeat(11) + " edge", 60);
    fault("edge" + ";edge".repeat(10) + ";edge 5;edge", 60);
    good("need 1" + ";need 2;look 3".repeat(5) + ";edge if face");
    fault("need 1" + ";need 2;look 3".repeat(5) + ";edge if face;need 4", 90);
    needs("edge;".repeat(11) + "need 12", 12);
    needs("need 1;" + "edge;".repeat(10) + "edge", 1);
  }

  private static void clauseForms() {
    Due.says("CLAUSE: HEAD [\"if\" TEST]. HEAD: \"need\" SUM | \"look\" SUM | \"edge\".");
    for (String text : new String[] {"need 1", "look 1", "edge", "need 1 if face", "look 1 if face", "edge if face"}) good(text);
    fault("", 0);
    fault(";", 0);
    fault("if face", 0);
    fault("face", 0);
    fault("5", 0);
    fault("need", 4);
    fault("look", 4);
    fault("need;edge", 4);
    fault("look if face", 5);
    fault("edge 1", 5);
    fault("edge edge", 5);
    fault("need 1 need 1", 7);
    fault("need 1 if", 9);
    fault("need 1 if;edge", 9);
    fault("need 1 if face if face", 15);
    fault("need 1;", 7);
    fault("need 1;;edge", 7);
    fault(";edge", 0);
  }

  private static void testForms() {
    Due.says("TEST: BOTH {\"or\" BOTH}. BOTH: PLAIN {\"and\" PLAIN}.");
    good("edge if face or face");
    good("edge if face and face");
    good("edge if face or face or face and face and face or face");
    fault("edge if or face", 8);
    fault("edge if and face", 8);
    fault("edge if face or", 15);
    fault("edge if face and", 16);
    fault("edge if face or or face", 16);
    fault("edge if face and or face", 17);
    fault("edge if face or;edge", 15);
    fault("edge if face face", 13);
    fault("edge if face not face", 13);
  }

  private static void plainForms() {
    Due.says("PLAIN: \"not\" PLAIN | \"(\" TEST \")\" | \"welded\" | \"bolted\" | \"mended\" | \"face\" | SUM (\"&lt;\" | \"&gt;\" | \"=\") SUM.");
    for (String text : new String[] {"not face", "not not face", "(face)", "not (face)", "(not face)", "(face or face)", "1<2", "1>2", "1=2", "not 1<2", "(1<2)",
      "[1]<[2]", "1+2=3*4"}) good("edge if " + text);
    fault("edge if not", 11);
    fault("edge if not not", 15);
    fault("edge if not and face", 12);
    fault("edge if (", 9);
    fault("edge if ()", 9);
    fault("edge if (face", 13);
    fault("edge if (face]", 13);
    fault("edge if (face))", 14);
    fault("edge if face)", 12);
    fault("edge if (1)", 10);
    fault("edge if (1)<2", 10);
    fault("edge if 1", 9);
    fault("edge if 1+2", 11);
    fault("edge if 1<", 10);
    fault("edge if 1<<2", 10);
    fault("edge if 1<=2", 10);
    fault("edge if 1<2<3", 11);
    fault("edge if 1<face", 10);
    fault("edge if face<1", 12);
    fault("edge if 1 and face", 10);
    fault("edge if 1<2 + face", 14);
    fault("edge if 1<(2)", 10);
    fault("edge if 1!2", 9);
    fault("edge if 1&lt;2", 9);
  }

  private static void sumForms() {
    Due.says("SUM: TERM {(\"+\" | \"-\") TERM}. TERM: PART {(\"*\" | \"/\") PART}. PART: NUMBER | \"[\" SUM \"]\" | \"load\" | \"dead\" | \"tier\" | \"side\" | \"day\" | \"holds\" | \"leg\" | \"floors\" | \"age\" | \"braces\".");
    for (String text : new String[] {"1+1", "1-1", "1*1", "1/1", "1+1*1-1/1", "[1]", "[[1]]", "[1+1]*[1-1]"}) good("need " + text);
    fault("need +1", 5);
    fault("need -1", 5);
    fault("need *1", 5);
    fault("need 1+", 7);
    fault("need 1*", 7);
    fault("need 1+-1", 7);
    fault("need 1*/1", 7);
    fault("need 1++1", 7);
    fault("need []", 6);
    fault("need [1", 7);
    fault("need [1)", 7);
    fault("need 1]", 6);
    fault("need [1]]", 8);
    fault("need [1][1]", 8);
    fault("need (1)", 5);
    fault("need [1<2]", 7);
    fault("need [face]", 6);
    for (String plain : PLAINS) fault("need " + plain, 5);
    for (String plain : PLAINS) fault("need 1+" + plain, 7);
    fault("need not", 5);
    fault("need need", 5);
  }

  private static void numbers() {
    Due.says("NUMBERS to 100,000.");
    needs("need 0", 0);
    needs("need 99999", 99_999);
    needs("need 100000", 100_000);
    fault("need 100001", 5);
    fault("need 100010", 5);
    fault("need 200000", 5);
    fault("need 1000000", 5);
    needs("need 00000000000000000000000000100000", 100_000);
    fault("need 00000000000000000000000000100001", 5);
    // These would be small if numbers wrapped around.
    for (String wraps : new String[] {"4294967296", "4294967301", "2147483648", "18446744073709551616", "18446744073709551621"}) fault("need " + wraps, 5);
    fault("need 1+100001", 7);
    fault("edge if 1<100001", 10);
  }

  private static void fiftyLeaves() {
    Due.says("50 NUMBERS and words that are PARTS or PLAINS by themselves (FAULT at the 51st)");
    String ones = "1+".repeat(49), more = "1+".repeat(50);
    good("need " + ones + "1");
    fault("need " + more + "1", 105);
    fault("need " + more + "1+1", 105);
    for (String part : PARTS) {
      good("need " + ones + part);
      fault("need " + more + part, 105);
      fault("need " + (part + "+").repeat(20) + "1+".repeat(30) + "1", 5 + 20 * (part.length() + 1) + 60);
    }
    for (String plain : PLAINS) {
      good("need " + "1+".repeat(48) + "1 if " + plain);
      fault("need " + ones + "1 if " + plain, 108);
      fault("need " + "1+".repeat(48) + "1 if " + plain + " or " + plain, 106 + plain.length() + 4);
    }
    // All clauses of a text together.
    good("need " + "1+".repeat(24) + "1;look " + "1+".repeat(24) + "1");
    fault("need " + "1+".repeat(24) + "1;look " + "1+".repeat(24) + "1;need 1", 115);
    needs("need " + ones + "1", 50);
    CornerWinds x = new CornerWinds();
    x.wind(0, 1, 1);
    for (int i = 0; i < 8; i++) {
      Due.is("one leaf more", Due.rule(x, "need " + more + "1"), -6);
      Due.is("each text by itself", Due.rule(x, "need " + ones + i), i);
    }
    for (int i = 0; i < 8; i++) Due.is("each text by itself", x.need(i, 0, 0), 49 + i);
  }

  private static void notLeaves() {
    Due.says("words that are PARTS or PLAINS by themselves");
    String nots = "not(".repeat(8), closed = ")".repeat(8);
    needs("need 1" + "+1".repeat(44) + " if " + (nots + "face" + closed + "and ").repeat(4) + nots + "face" + closed, 45);
    needs("need 1" + "+1".repeat(44) + " if " + (nots + "face" + closed + "and ").repeat(4) + nots + "bolted" + closed, 0);
    needs("need 9 if " + "not ".repeat(96) + "face", 9);
    needs("need 9 if " + "not ".repeat(95) + "face", 0);
    good("need " + "1+".repeat(47) + "1 if not not (face) and not (bolted)");
    good("need " + "1+".repeat(44) + "1 if not face;edge if not face;look [1];edge if [[1]]=1");
    good("need " + "1+".repeat(46) + "1;look 1;edge if 1=1;edge;edge;edge");
    fault("need " + "1+".repeat(46) + "1;look 1;edge if 1=1;edge;edge;edge;need 1", 5 + 93 + 1 + 7 + 12 + 15 + 5);
  }

  private static void eightBrackets() {
    Due.says("8 brackets of both kinds within one another (FAULT at the 9th) at most");
    for (int tests = 0; tests <= 8; tests++) {
      String open = "(".repeat(tests), close = ")".repeat(tests);
      String in = "[".repeat(8 - tests), out = "]".repeat(8 - tests);
      good("edge if " + open + in + "1" + out + "=1" + close);
      fault("edge if " + open + in + "[1]" + out + "=1" + close, 16);
      fault("edge if (" + open + in + "1" + out + "=1" + close + ")", 16);
      if (tests < 8) good("edge if " + open + "1=" + in + "1" + out + close);
      if (tests < 8) fault("edge if " + open + "1=[" + in + "1" + out + "]" + close, 18);
    }
    good("need " + "[".repeat(8) + "1" + "]".repeat(8));
    fault("need " + "[".repeat(9) + "1" + "]".repeat(9), 13);
    fault("need " + "[".repeat(100), 13);
    fault("edge if " + "(".repeat(100), 16);
    fault("edge if " + "not(".repeat(9) + "face" + ")".repeat(9), 43);
    good("edge if " + "not(".repeat(8) + "face" + ")".repeat(8));
    // One behind the other they are not within one another.
    good("need [1]" + "+[1]".repeat(40));
    good("need " + "[".repeat(8) + "1" + "]".repeat(8) + "+" + "[".repeat(8) + "1" + "]".repeat(8));
    good("need " + "[".repeat(8) + "1]+[1]" + "]".repeat(7));
    fault("need " + "[".repeat(8) + "1]+[[1]]" + "]".repeat(7), 17);
    good("edge if ([[1]]=[1]) and (([1]=1)) or " + "(".repeat(8) + "face" + ")".repeat(8));
    good("need " + "[".repeat(8) + "1" + "]".repeat(8) + " if " + "(".repeat(8) + "face" + ")".repeat(8));
  }

  private static void faultAtTheEnd() {
    Due.says("FAULT: the first TOKEN that can't go on there (the end's: the TEXT's length).");
    for (int blanks = 0; blanks < 22; blanks++) {
      fault("need" + " ".repeat(blanks), 4 + blanks);
      fault("need 1 +" + " ".repeat(blanks), 8 + blanks);
      fault("edge if (face" + " ".repeat(blanks), 13 + blanks);
      fault("need" + " ".repeat(blanks) + "?", 4 + blanks);
      fault(" ".repeat(blanks) + "? need", blanks);
    }
    fault("need ? ? ?", 5);
    fault("need 100001 100001", 5);
  }

  /** One wind of 40 on area 1 of the lowest tier puts 10 on joint 0. */
  private static CornerWinds ten() {
    CornerWinds x = new CornerWinds();
    Due.areaOn(x, 0, 1);
    x.terms(2, 0);
    x.wind(0, 40, 1);
    return x;
  }

  private static void load() {
    Due.says("load: TENSION and DEAD together, cut towards 0");
    CornerWinds x = ten();
    Due.rule(x, "need load");
    Due.rule(x, "need 0-load");
    Due.is("just 10", x.need(0, 0, 0), 10);
    Due.is("below 0", x.need(0, 1, 0), 0);
    Due.is("just -10", x.need(1, 1, 0), 10);
    x.tier(0, 1, 100_000);
    Due.is("the dead weight does not count", x.need(0, 0, 0), 10);
    x.terms(4, 1);
    Due.is("9.9 is cut", x.need(0, 0, 0), 9);
    Due.is("-9.9 is cut towards 0", x.need(1, 1, 0), 9);
    x.terms(4, 0);
    x.tier(0, 0, 0);
    Due.is("none", x.need(0, 0, 0), 0);
    x = new CornerWinds();
    Due.areaOn(x, 0, 1);
    x.terms(2, 0);
    Due.rule(x, "need load+1;need 77 if load<0");
    x.wind(0, 3, 1);
    Due.is("0.75 is cut", x.need(0, 0, 0), 1);
    Due.is("-0.75 is cut towards 0", x.need(0, 1, 0), 1);
    x.wind(0, 4, 1);
    Due.is("just 1", x.need(0, 0, 0), 2);
    Due.is("just -1", x.need(0, 1, 0), 77);
    Due.says("is asked of a JOINT on a DAY by a WIND with CURRENT (nothing GONE)");
    x = ten();
    Due.rule(x, "need load");
    x.terms(4, 50);
    Due.is("with current", x.need(0, 0, 0), 5);
    x.terms(1, 1);
    Due.is("bolted", x.step(0, 0, 1, 0, 0), 0);
    Due.is("it goes", x.goes(0, 1, 0), 0);
    Due.is("it is asked as if it did not", x.need(0, 0, 0), 5);
    Due.is("nor do the others bear more", x.need(0, 4, 0), 5);
  }

  private static int told(CornerWinds x, String text, int joint, int day) {
    x.image(1);
    Due.rule(x, text);
    int told = x.need(x.count(1) - 1, joint, day);
    x.back(1);
    return told;
  }

  private static void wordsOfAJoint() {
    Due.says("dead, tier, side (its FACE), day, holds (what it HOLDS), leg; welded, bolted, mended (BOLTED with quarters), face (the WIND's WAY is even); floors, age, braces: 0.");
    CornerWinds x = Due.tower();
    x.wind(0, 1, 1);
    x.tower(200, 100, 400, 10, 1);
    Due.rule(x, "look floors+age+braces");
    Due.is("another tower is asked ahead of that", x.first(1), 0);
    for (String word : new String[] {"floors", "age", "braces"}) {
      Due.is(word + " behind that", told(x, "need 5+" + word, 0, 0), 5);
      Due.is(word + " behind that", told(x, "need 5-" + word, 0, 0), 5);
    }
    x.tier(5, 1, 100_000);
    x.tier(0, 1, 7);
    x.terms(0, 100_000);
    x.terms(3, 10);
    Due.is("dead, the most", told(x, "need dead", 47, 0), 100_000);
    Due.is("dead of its own tier", told(x, "need dead", 7, 0), 7);
    Due.is("tier, the highest", told(x, "need tier", 40, 0), 5);
    Due.is("tier, the lowest", told(x, "need tier", 7, 0), 0);
    Due.is("side, the last", told(x, "need side", 47, 0), 3);
    Due.is("side, the first", told(x, "need side", 41, 0), 0);
    Due.is("day, the last", told(x, "need day", 0, 9999), 9999);
    Due.is("day, the first", told(x, "need day", 0, 0), 0);
    Due.is("holds, the most", told(x, "need holds", 0, 0), 100_000);
    Due.is("leg, the most", told(x, "need leg", 0, 0), 10);
    Due.is("floors, age, braces", told(x, "need floors+age+braces", 0, 0), 0);
    Due.bolt(x, 0);
    String kinds = "need 0;need 1 if welded;need 2 if bolted;need 3 if mended";
    Due.is("welded", told(x, kinds, 1, 0), 1);
    Due.is("bolted", told(x, kinds, 0, 0), 2);
    x.plate(0, 1);
    Due.is("mended", told(x, kinds, 0, 0), 3);
    x.plate(0, 4);
    Due.is("mended wholly", told(x, kinds, 0, 0), 3);
    x.plate(0, 0);
    Due.is("bolted again", told(x, kinds, 0, 0), 2);
    Due.is("holds", told(x, "need holds", 0, 0), 100);
  }

  private static void wordsOfATower() {
    Due.says("Or of another TOWER: floors, age, braces, leg, bolted as told of it; all else 0, not so.");
    CornerWinds x = Due.tower();
    x.terms(3, 9);
    x.tier(0, 1, 50);
    x.wind(0, 1, 1);
    x.step(8, 0, 1, 0, 0);
    x.plate(0, 2);
    x.tower(1, 0, 0, 0, 0);
    x.tower(200, 100, 400, 10, 1);
    Due.is("the greatest", first(x, "look 1 if floors=200 and age=100 and braces=400 and leg=10 and bolted"), 1);
    Due.is("the least", first(x, "look 1 if floors=1 and age=0 and braces=0 and leg=0 and not bolted"), 0);
    for (String word : new String[] {"load", "dead", "tier", "side", "day", "holds"}) {
      Due.is(word + " is 0", first(x, "look 1 if " + word + "=0 and bolted;look 2 if not " + word + "=0"), 1);
    }
    for (String word : new String[] {"welded", "mended", "face"}) Due.is(word + " is not so", first(x, "look 1 if " + word), -1);
  }

  private static int first(CornerWinds x, String text) {
    x.image(1);
    Due.rule(x, text);
    int first = x.first(x.count(1) - 1);
    x.back(1);
    return first;
  }

  private static void beyond() {
    Due.says("Beyond 1,000,000,000 either way, or divided by 0, it is BROKEN");
    String most = "100000*10000", least = "[0-100000]*10000";
    needs("need 3;need " + most, 1_000_000_000);
    needs("need 3;need " + most + "+1", 3);
    needs("need 3;need " + most + "-1", 999_999_999);
    needs("need 3;need [" + most + "+1]-1", 3);
    needs("need 3;need 1-[" + most + "+1]", 3);
    needs("need 3;need " + least, 0);
    needs("need 3;need " + least + "-1", 3);
    needs("need 3;need " + least + "+1", 0);
    needs("need 3;need [" + least + "-1]+1", 3);
    needs("need 3;need 0-[" + least + "]", 1_000_000_000);
    needs("need 3;need 100000*10001", 3);
    needs("need 3;need 100000*100000", 3);
    needs("need 3;need 100000*100000/100000", 3);
    needs("need 3;need [0-100000]*100000", 3);
    needs("need 3;need " + most + "+" + most, 3);
    needs("need 3;need " + most + "-" + most, 0);
    // Wrapped around, these would be within.
    needs("need 3;need [" + most + "]*[" + most + "]", 3);
    needs("need 3;need [" + least + "]*[" + most + "]", 3);
    needs("need 3;need [" + least + "]/[0-1]", 1_000_000_000);
    needs("need 3;need 5 if " + most + ">0", 5);
    needs("need 3;need 5 if " + most + "+1>0", 3);
    needs("need 3;need 5 if not " + most + "+1>0", 3);
    needs("need 3;need 5 if 0<" + most + "+1", 3);
    needs("need 3;need 5 if " + least + "<0", 5);
    needs("need 3;need 5 if " + least + "-1<0", 3);
    needs("need 3;need 5 if " + most + "+1=" + most + "+1", 3);
  }

  private static void divided() {
    Due.says("/ is cut towards 0");
    needs("need 6/2", 3);
    needs("need 7/2", 3);
    needs("need 1/2+5", 5);
    needs("need [0-1]/2+5", 5);
    needs("need [0-7]/2+5", 2);
    needs("need 7/[0-2]+5", 2);
    needs("need [0-7]/[0-2]", 3);
    needs("need [0-8]/2+5", 1);
    needs("need 0/7+1", 1);
    Due.says("or divided by 0, it is BROKEN");
    needs("need 3;need 1/0", 3);
    needs("need 3;need 0/0", 3);
    needs("need 3;need 1/[2-2]", 3);
    needs("need 3;need 1/leg", 3);
    needs("need 3;need 0*[1/0]", 3);
    needs("need 3;need 1/[1/2]", 3);
    needs("need 3;need 5 if 1/0=0", 3);
    needs("need 3;need 5 if not 1/0=0", 3);
    needs("need 3;need 5 if 1=1/0", 3);
  }

  private static void clauseHolds() {
    Due.says("A CLAUSE HOLDS, if its \"if\" (if it has one) is so, and neither that nor its SUM is BROKEN");
    needs("need 3;need 4", 4);
    needs("need 3;need 4 if face", 4);
    needs("need 3;need 4 if not face", 3);
    needs("need 3;need 4/0", 3);
    needs("need 3;need 4/0 if face", 3);
    needs("need 3;need 4 if 1/0=1", 3);
    needs("need 3 if not face;need 4/0", 0);
    CornerWinds x = new CornerWinds();
    x.wind(1, 1, 1);
    Due.rule(x, "need 3");
    Due.rule(x, "need 3;edge");
    Due.rule(x, "need 3;edge if face");
    Due.rule(x, "need 3;edge if 1/0=1");
    Due.rule(x, "need 3;edge;edge if face;edge if 1/0=1");
    int[] due = {0, 3, 0, 0, 3};
    for (int i = 0; i < 5; i++) Due.is("an edge that holds or not, " + i, x.need(i, 0, 0), due[i]);
  }

  private static void lazy() {
    Due.says("(\"or\", \"and\" ask what stands behind only if it can still matter)");
    String broken = "1/0=1";
    needs("need 5 if face or " + broken, 5);
    needs("need 5 if " + broken + " or face", 0);
    needs("need 5 if bolted or " + broken, 0);
    needs("need 5 if not(bolted and " + broken + ")", 5);
    needs("need 5 if not(face and " + broken + ")", 0);
    needs("need 5 if not(" + broken + " and bolted)", 0);
    needs("need 5 if face or bolted and " + broken, 5);
    needs("need 5 if bolted and " + broken + " or face", 5);
    needs("need 5 if bolted and " + broken + " and " + broken + " or face", 5);
    needs("need 5 if face or " + broken + " or " + broken, 5);
    needs("need 5 if bolted or face or " + broken, 5);
    needs("need 5 if face and face or " + broken, 5);
    needs("need 5 if face and bolted or " + broken, 0);
    for (String so : new String[] {"face", "welded", "1<2", "2>1", "1=1", "not bolted", "not 2<1", "(face)", "not(face and bolted)"}) {
      needs("need 5 if " + so + " or " + broken, 5);
      needs("need 3;need 5 if " + so + " and " + broken, 3);
      needs("need 3;need 5 if not " + (so.startsWith("not ") ? "(" + so + ")" : so), 3);
    }
    for (String not : new String[] {"bolted", "mended", "2<1", "1>2", "1=2", "not face", "not 1<2"}) {
      needs("need 3;need 5 if " + not + " and " + broken + " or face", 5);
      needs("need 3;need 5 if " + not + " or " + broken, 3);
    }
    CornerWinds x = Due.tower();
    x.wind(0, 1, 1);
    Due.bolt(x, 0);
    x.plate(0, 1);
    Due.rule(x, "need 5 if mended or " + broken);
    Due.rule(x, "need 5 if bolted or " + broken);
    Due.rule(x, "need 5 if not mended or not bolted");
    int[] due = {5, 5, 0};
    for (int i = 0; i < 3; i++) Due.is("of one that is mended, " + i, x.need(1 + i, 0, 0), due[i]);
    needs("need 5 if (face or " + broken + ") and face", 5);
    needs("need 5 if (face or " + broken + ") and " + broken, 0);
  }

  private static void need() {
    Due.says("of what the last \"need\" that HOLDS tells (0 without); at least 0");
    needs("edge", 0);
    needs("look 5", 0);
    needs("need 5 if bolted", 0);
    needs("need 5/0", 0);
    needs("need 0-1", 0);
    needs("need 0", 0);
    needs("need 1", 1);
    needs("need 9;need 1", 1);
    needs("need 9;need 0-9", 0);
    needs("need 9;look 3;need 1 if bolted;edge", 9);
    CornerWinds x = new CornerWinds();
    Due.rule(x, "need 5;edge");
    Due.is("without winds", x.need(0, 0, 0), 0);
  }

  private static void needOfAllWinds() {
    Due.says("NEED of a JOINT by a TEXT on a DAY: the greatest, over all WINDS that it asks for (those on a face, and, if an \"edge\" HOLDS for that WIND, across an edge)");
    CornerWinds x = new CornerWinds();
    Due.areaOn(x, 0, 1);
    x.terms(2, 0);
    Due.rule(x, "need load;edge if load>6");
    for (int i = 0; i < 14; i++) x.wind(i % 2 == 0 ? 4 : 2, 100, 1);
    Due.is("none pulls it", x.need(0, 0, 0), 0);
    // Across an edge 40 puts 7 on joint 0.
    x.wind(1, 39, 1);
    Due.is("its edge does not hold", x.need(0, 0, 0), 0);
    x.wind(7, 40, 1);
    Due.is("the last one's does", x.need(0, 0, 0), 7);
    x = new CornerWinds();
    Due.areaOn(x, 0, 1);
    x.terms(2, 0);
    Due.rule(x, "need load;edge");
    x.wind(0, 80, 1);
    for (int i = 0; i < 15; i++) x.wind(i % 8, 40, 1);
    Due.is("the first one is the greatest", x.need(0, 0, 0), 20);
  }

  private static void let() {
    Due.says("It is LET, if it HOLDS that.");
    CornerWinds x = new CornerWinds();
    x.wind(0, 1, 1);
    String[] texts = {"need 99", "need 100", "need 101", "need 1000", "need 1001", "need 0-5", "need 5/0", "need day+92"};
    for (int i = 0; i < 8; i++) Due.is("rule", Due.rule(x, texts[i]), i);
    int[] bolted = {1, 1, 0, 0, 0, 1, 1, 1}, welded = {1, 1, 1, 1, 0, 1, 1, 1};
    for (int i = 0; i < 8; i++) Due.is("bolted by text " + i, x.step(8, 0, 1, 0, i), bolted[i]);
    for (int i = 0; i < 8; i++) Due.is("welded by text " + i, x.step(8, 0, 0, 0, i), welded[i]);
    Due.is("the next day", x.step(9, 0, 1, 0, 7), 0);
    x.plate(0, 4);
    Due.is("a plate is no help: there is none behind it", x.step(9, 0, 1, 0, 2), 0);
    Due.says("LET by that, as it is behind it, or not");
    x = new CornerWinds();
    x.wind(0, 1, 1);
    Due.rule(x, "need 2000;need 0 if bolted");
    Due.rule(x, "need 2000;need 0 if welded");
    Due.is("welded ahead of it", x.step(0, 0, 1, 0, 0), 1);
    Due.is("bolted ahead of it", x.step(0, 0, 0, 0, 0), 0);
    Due.is("welded ahead of it", x.step(0, 0, 1, 0, 1), 0);
    Due.is("bolted ahead of it", x.step(0, 0, 0, 0, 1), 1);
  }

  private static void sixtySteps() {
    Due.says("DRAWINGS: STEPS, 60 at most");
    CornerWinds x = Due.tower();
    for (int i = 0; i < 60; i++) {
      Due.is("count", x.count(2), i);
      Due.is("not there yet", x.drawing(i, 0), -1);
      Due.is("step", x.step(i, i % 48, 1, 0, 0), 1);
    }
    Due.is("one more", x.step(60, 20, 0, 0, 0), -5);
    Due.is("it is not done", x.joint(20, 0), 1);
    Due.is("count", x.count(2), 60);
    Due.is("the last", x.drawing(59, 0), 59);
    Due.is("none behind it", x.drawing(60, 0), -1);
  }

  private static void days() {
    Due.says("on a DAY (0 .. 9999, none ahead of the latest one's)");
    CornerWinds x = Due.tower();
    for (int day : new int[] {-1, 10_000, LEAST, MOST}) Due.is("day " + day, x.step(day, 0, 1, 0, 0), -1);
    Due.is("the first day", x.step(0, 0, 1, 0, 0), 1);
    Due.is("the same day", x.step(0, 1, 1, 0, 0), 1);
    Due.is("a later one", x.step(5, 2, 1, 0, 0), 1);
    Due.is("the day ahead of it", x.step(4, 3, 1, 0, 0), -3);
    Due.is("the first day", x.step(0, 3, 1, 0, 0), -3);
    Due.is("not done", x.joint(3, 0), 0);
    Due.is("a refused one is not the latest", x.step(5, 3, 1, 0, 0), 1);
    Due.is("the last day", x.step(9999, 4, 1, 0, 0), 1);
    Due.is("behind it", x.step(10_000, 5, 1, 0, 0), -1);
    Due.is("ahead of it", x.step(9998, 5, 1, 0, 0), -3);
    Due.is("the last day again", x.step(9999, 5, 1, 0, 0), 1);
    Due.is("need on the first day", x.need(0, 0, 0), 0);
    Due.is("need on the last day", x.need(0, 0, 9999), 0);
  }

  private static void stepNumbers() {
    Due.says("a JOINT becomes WELDED, BOLTED (no PLATE) by a PERSON 0 .. 7 and a TEXT");
    CornerWinds x = Due.tower();
    int[][] wrong = {{-1, 1, 0}, {48, 1, 0}, {LEAST, 1, 0}, {MOST, 1, 0}, {0, -1, 0}, {0, 2, 0}, {0, LEAST, 0}, {0, MOST, 0},
      {0, 1, -1}, {0, 1, 8}, {0, 1, LEAST}, {0, 1, MOST}};
    for (int[] w : wrong) Due.is("step of " + w[0] + ", " + w[1] + ", " + w[2], x.step(0, w[0], w[1], w[2], 0), -1);
    Due.is("none was done", x.count(2), 0);
    Due.is("the first joint, the first person", x.step(0, 0, 1, 0, 0), 1);
    Due.is("the last joint, the last person", x.step(0, 47, 1, 7, 0), 1);
    Due.is("the kind", x.step(0, 47, 0, 7, 0), 1);
    Due.says("A STEP: a JOINT becomes WELDED (kind 0), BOLTED (1): 1 LET, 0 not. -1; -2 the TEXT; -3 a DAY ahead of the latest; -5.");
    for (int text : new int[] {1, 7, 8, -1, LEAST, MOST}) {
      Due.is("text " + text, x.step(0, 5, 1, 0, text), -2);
      Due.is("status", x.status(), -2);
    }
    Due.is("not done", x.joint(5, 0) + x.count(2), 3);
  }

  private static void noPlate() {
    Due.says("BOLTED (no PLATE)");
    CornerWinds x = Due.tower();
    Due.bolt(x, 6);
    x.plate(6, 4);
    Due.bolt(x, 6);
    Due.is("no quarters", x.joint(6, 1), 0);
    Due.is("it holds as a bolt", x.joint(6, 2), 100);
    x.plate(6, 3);
    x.step(0, 6, 0, 0, 0);
    Due.is("welded", x.joint(6, 2), 1000);
    Due.bolt(x, 6);
    Due.is("bolted anew", x.joint(6, 1), 0);
    Due.is("had none", x.plate(6, 1), 0);
    Due.bolt(x, 7);
    Due.is("another joint's stays", x.joint(6, 1), 1);
  }

  private static void doneAllTheSame() {
    Due.says("LET by that, as it is behind it, or not; it is done all the same");
    CornerWinds x = new CornerWinds();
    x.wind(0, 1, 1);
    Due.rule(x, "need 100000");
    Due.is("not let", x.step(3, 8, 1, 2, 0), 0);
    Due.is("done", x.joint(8, 0), 1);
    Due.is("it is no refusal", x.status(), 0);
    Due.is("count", x.count(2), 1);
    Due.is("drawn as not let", x.drawing(0, 5), 0);
  }

  /** Falls by wind 0 if both joints of the east face of tier 2 are bolted. */
  private static CornerWinds eastOfTwo() {
    CornerWinds x = Due.tower();
    x.terms(1, 1);
    x.terms(2, 100);
    x.wind(0, 9, 1);
    return x;
  }

  private static void seen() {
    Due.says("SEEN: the first STEP behind which it FALLS by a WIND told now, with CURRENT, by which it did not ahead of it (JOINTS WELDED all ahead of the first; PLATES none; all else as it is).");
    CornerWinds x = eastOfTwo();
    Due.is("no steps", x.saw(), -1);
    Due.bolt(x, 18);
    Due.is("one is not enough", x.saw(), -1);
    Due.bolt(x, 19);
    Due.is("the second", x.saw(), 1);
    Due.bolt(x, 26, 27);
    Due.is("the first of such", x.saw(), 1);
    x.plate(18, 4);
    x.plate(19, 4);
    Due.is("plates are none", x.saw(), 1);
    x.terms(1, 1000);
    Due.is("by what bolts hold now", x.saw(), -1);
    x.terms(1, 1);
    Due.is("and again", x.saw(), 1);
    x.step(0, 18, 0, 0, 0);
    x.step(0, 18, 1, 0, 0);
    Due.is("behind it is welded, and bolted again", x.saw(), 1);
    x = eastOfTwo();
    Due.bolt(x, 18);
    x.step(0, 18, 0, 0, 0);
    Due.bolt(x, 19);
    Due.is("never both at once", x.saw(), -1);
    Due.bolt(x, 18);
    Due.is("both at once", x.saw(), 3);
  }

  private static void seenAtTheEdges() {
    Due.says("the first STEP behind which it FALLS by a WIND told now, with CURRENT, by which it did not ahead of it");
    // By a bolt beside a weld the face falls at once: 945 on each brace of the lowest tier's east.
    CornerWinds x = eastOfTwo();
    Due.bolt(x, 2);
    Due.is("the very first", x.saw(), 0);
    x = eastOfTwo();
    for (int i = 0; i < 59; i++) Due.bolt(x, 45);
    Due.is("not yet", x.saw(), -1);
    Due.bolt(x, 2);
    Due.is("the sixtieth", x.saw(), 59);
    x = Due.tower();
    x.terms(1, 1);
    x.terms(2, 100);
    Due.bolt(x, 2);
    Due.is("no wind", x.saw(), -1);
    x.wind(0, 9, 1);
    Due.is("a wind that is told behind it", x.saw(), 0);
    x.terms(4, 50);
    x.terms(0, 944);
    x.terms(1, 473);
    Due.is("without current it falls", x.falls(0, 0), 0);
    Due.is("with current it does not: 472.5 on a joint", x.falls(0, 1), -1);
    Due.is("so it is not seen", x.saw(), -1);
    x.terms(1, 472);
    Due.is("the bolt goes, and the weld can't bear 945", x.saw(), 0);
    x.terms(0, 945);
    Due.is("the weld just bears it", x.saw(), -1);
    Due.says("SEEN; NONE.");
    x = Due.tower();
    x.terms(2, 100);
    x.wind(0, 10, 1);
    Due.is("it falls as it was made", x.falls(0, 1), 0);
    x.terms(1, 1);
    Due.bolt(x, 2, 3);
    Due.is("it did ahead of it", x.saw(), -1);
  }

  /** All welded it falls by its wind; with joint 5 bolted that one goes first, and it stands. */
  private static CornerWinds betterBolted() {
    CornerWinds x = Due.tower();
    Due.areaOn(x, 0, 20);
    x.terms(1, 1);
    x.terms(0, 420);
    x.terms(2, 38);
    x.stiff(5, 3);
    x.wind(4, 100, 1);
    return x;
  }

  private static void seenOnceMore() {
    Due.says("by which it did not ahead of it");
    CornerWinds x = betterBolted();
    Due.is("all welded it falls", x.falls(0, 1), 0);
    Due.bolt(x, 5);
    Due.is("bolted it does not", x.falls(0, 1), -1);
    Due.is("so nothing is seen", x.saw(), -1);
    x.step(0, 5, 0, 0, 0);
    Due.is("welded again it falls, and did not ahead of that", x.saw(), 1);
    x.wind(0, 1, 1);
    Due.is("by another wind it never falls", x.saw(), 1);
    x = betterBolted();
    x.step(0, 5, 0, 0, 0);
    Due.is("welded, as it was: it fell ahead of it", x.saw(), -1);
    Due.says("all else as it is");
    x = eastOfTwo();
    Due.bolt(x, 18, 19);
    x.tier(2, 1, 1000);
    Due.is("held down by now", x.saw(), -1);
    x.tier(2, 1, 0);
    Due.is("not any more", x.saw(), 1);
    x.terms(3, 10);
    Due.is("the leg at the corner", x.saw(), -1);
    x.terms(3, 0);
    Due.is("the leg in the middle", x.saw(), 1);
  }

  private static void seenWhileAnotherEnds() {
    Due.says("the first STEP behind which it FALLS by a WIND told now, with CURRENT, by which it did not ahead of it");
    CornerWinds x = betterBolted();
    x.wind(6, 80, 1);
    Due.is("all welded it falls by the one", x.falls(0, 1), 0);
    Due.is("and stands by the other", x.falls(1, 1), -1);
    Due.bolt(x, 5);
    Due.is("bolted it stands by the one", x.falls(0, 1), -1);
    Due.is("and falls by the other", x.falls(1, 1), 0);
    Due.is("so that one is seen, though another one's fall has ended", x.saw(), 0);
    x = betterBolted();
    Due.bolt(x, 5);
    x.step(0, 5, 0, 0, 0);
    x.wind(6, 80, 1);
    Due.is("the first of two, each by a wind of its own", x.saw(), 0);
  }

  private static void notSeenBehindTheLast() {
    Due.says("SEEN; NONE.");
    // As betterBolted(), from the other side: joint 0 in the place of joint 5.
    CornerWinds x = Due.tower();
    Due.areaOn(x, 0, 20);
    x.terms(1, 1);
    x.terms(0, 420);
    x.terms(2, 38);
    x.stiff(0, 3);
    x.wind(0, 100, 1);
    Due.is("all welded it falls", x.falls(0, 1), 0);
    Due.bolt(x, 0);
    Due.is("bolted it does not", x.falls(0, 1), -1);
    Due.is("behind the last step nothing is asked", x.saw(), -1);
    for (int i = 0; i < 59; i++) Due.bolt(x, 47);
    Due.is("behind the sixtieth neither", x.saw(), -1);
  }

  private static void feed() {
    Due.says("Twenty bytes come behind the TAPE, four of each number, the highest first: how many it has. NONE, if there would be more than 400.");
    CornerWinds x = new CornerWinds();
    for (int n = 20; n <= 400; n += 20) Due.is("feed", x.feed(0, 0, 0, 0, 0), n);
    Due.is("more than 400", x.feed(0, 0, 0, 0, 0), -1);
    Due.is("none came", x.count(7), 400);
    x.end(381);
    Due.is("401", x.feed(0, 0, 0, 0, 0), -1);
    Due.is("none came", x.count(7), 381);
    x.end(380);
    Due.is("just 400", x.feed(0, 0, 0, 0, 0), 400);
    x.end(0);
    Due.is("an empty one", x.feed(LEAST, MOST, -1, 1, 0), 20);
    x = new CornerWinds();
    x.feed(0x6E656564, 0x20202020, 0x20202020, 0x20202020, 0x20313233);
    x.feed(0x3435202B, 0x20202020, 0x20202020, 0x20202020, 0x20202031);
    x.wind(0, 1, 1);
    Due.is("rule", x.rule(), 0);
    Due.is("a number over both of them", x.need(0, 0, 0), 12_346);
    x.feed(0x000102FF, 0x80808080, 0x64000000, 0, 0);
    x.end(9);
    // Did not come; 1, 2, missing five times, 100.
    Due.is("row", x.row(), 1);
    Due.is("bytes above 127", x.call(100), 1);
    x.terms(6, 7);
    Due.is("the bytes in their order", x.call(3), 7);
  }

  private static void end() {
    Due.says("The TAPE has its first n bytes alone: n. NONE, if it has not so many, or n is below 0.");
    CornerWinds x = new CornerWinds();
    Due.is("empty", x.end(0), 0);
    Due.is("not so many", x.end(1), -1);
    x.feed(0, 0, 0, 0, 0);
    Due.is("all", x.end(20), 20);
    for (int n : new int[] {21, -1, LEAST, MOST}) Due.is("end " + n, x.end(n), -1);
    Due.is("as many as there were", x.count(7), 20);
    Due.is("one less", x.end(19), 19);
    Due.is("what is gone is gone", x.end(20), -1);
    Due.is("none", x.end(0), 0);
    Due.is("none", x.count(7), 0);
    for (int i = 0; i < 20; i++) x.feed(0, 0, 0, 0, 0);
    Due.is("the most", x.end(400), 400);
    Due.is("one more", x.end(401), -1);
    x = new CornerWinds();
    x.wind(0, 1, 1);
    x.feed(0x6E656564, 0x20373839, 0, 0, 0);
    x.end(7);
    x.feed(0x33202020, 0x20202020, 0x20202020, 0x20202020, 0x20202020);
    Due.is("rule", x.rule(), 0);
    Due.is("its first bytes, then new ones", x.need(0, 0, 0), 783);
  }

  private static void ruleAndTape() {
    Due.says("The TAPE, which is empty then, becomes a TEXT: its number. -5 (ahead of reading it); -6 (blanks alone: FAULT at the end).");
    CornerWinds x = new CornerWinds();
    for (int blanks : new int[] {0, 1, 20, 399, 400}) {
      Due.is("blanks alone", Due.rule(x, " ".repeat(blanks)), -6);
      Due.is("fault at the end", x.fault(), blanks);
      Due.is("status", x.status(), -6);
      Due.is("the tape is empty", x.count(7), 0);
    }
    for (int i = 0; i < 8; i++) {
      Due.is("its number", Due.rule(x, "edge"), i);
      Due.is("status", x.status(), 0);
      Due.is("the tape is empty", x.count(7), 0);
    }
    Due.is("one that can be", Due.rule(x, "edge"), -5);
    Due.is("status", x.status(), -5);
    Due.is("the tape is empty", x.count(7), 0);
    Due.is("one that can't be", Due.rule(x, "no"), -5);
    Due.is("the tape is empty", x.count(7), 0);
    Due.is("blanks alone", Due.rule(x, "  "), -5);
    Due.is("nothing", x.rule(), -5);
    Due.is("count", x.count(1), 8);
  }

  private static void fault() {
    Due.says("FAULT of the latest rule() that read a TEXT: its place; NONE without.");
    CornerWinds x = new CornerWinds();
    Due.is("ahead of any", x.fault(), -1);
    x.image(0);
    Due.rule(x, "need ?");
    Due.is("its place", x.fault(), 5);
    Due.rule(x, "?");
    Due.is("the first place", x.fault(), 0);
    Due.rule(x, "need");
    Due.is("the end", x.fault(), 4);
    Due.row(x, 1, 1);
    Due.row(x, 9);
    Due.is("a row is no text", x.fault(), 4);
    Due.rule(x, "need 1");
    Due.is("one without", x.fault(), -1);
    for (int i = 0; i < 6; i++) Due.rule(x, "edge");
    x.image(1);
    Due.rule(x, "edge if ?");
    Due.is("its place", x.fault(), 8);
    x.back(0);
    for (int i = 0; i < 8; i++) Due.rule(x, "edge");
    Due.is("one without", x.fault(), -1);
    Due.is("no room", Due.rule(x, "??"), -5);
    Due.is("that one was not read", x.fault(), -1);
    x.back(1);
    Due.rule(x, "edge if ?");
    Due.rule(x, "edge");
    x.back(1);
    Due.rule(x, "edge if face ?");
    Due.is("its place", x.fault(), 13);
  }

  private static void needWithout() {
    Due.says("NEED of a JOINT by a TEXT on a DAY; NONE.");
    CornerWinds x = new CornerWinds();
    x.wind(0, 1, 1);
    Due.is("no text", x.need(0, 0, 0), -1);
    Due.rule(x, "need 5+day+tier");
    Due.is("the first joint and day", x.need(0, 0, 0), 5);
    Due.is("the last joint and day", x.need(0, 47, 9999), 10_009);
    int[][] wrong = {{-1, 0, 0}, {1, 0, 0}, {7, 0, 0}, {8, 0, 0}, {LEAST, 0, 0}, {MOST, 0, 0}, {0, -1, 0}, {0, 48, 0}, {0, LEAST, 0}, {0, MOST, 0},
      {0, 0, -1}, {0, 0, 10_000}, {0, 0, LEAST}, {0, 0, MOST}};
    for (int[] w : wrong) Due.is("need of " + w[0] + ", " + w[1] + ", " + w[2], x.need(w[0], w[1], w[2]), -1);
  }

  private static void drawing() {
    Due.says("Of the i-th STEP 0 DAY, 1 JOINT, 2 its kind, 3 PERSON, 4 TEXT, 5 1 if LET, else 0. NONE.");
    CornerWinds x = Due.tower();
    for (int what = -1; what <= 6; what++) Due.is("no steps", x.drawing(0, what), -1);
    for (int i = 0; i < 7; i++) Due.rule(x, "need 0");
    x.step(0, 0, 0, 0, 0);
    x.step(9999, 47, 1, 7, 7);
    int[] first = {0, 0, 0, 0, 0, 1}, last = {9999, 47, 1, 7, 7, 1};
    for (int what = 0; what < 6; what++) {
      Due.is("the first, " + what, x.drawing(0, what), first[what]);
      Due.is("the last, " + what, x.drawing(1, what), last[what]);
    }
    int[][] wrong = {{-1, 0}, {2, 0}, {LEAST, 0}, {MOST, 0}, {0, -1}, {0, 6}, {1, 6}, {1, -1}, {0, LEAST}, {0, MOST}};
    for (int[] w : wrong) Due.is("drawing of " + w[0] + ", " + w[1], x.drawing(w[0], w[1]), -1);
  }

  private static void drawnAsItWas() {
    Due.says("Of the i-th STEP 0 DAY, 1 JOINT, 2 its kind, 3 PERSON, 4 TEXT, 5 1 if LET, else 0.");
    CornerWinds x = new CornerWinds();
    x.wind(0, 1, 1);
    Due.rule(x, "need 500");
    Due.is("bolted, not let", x.step(1, 3, 1, 2, 0), 0);
    Due.is("welded, let", x.step(2, 3, 0, 4, 0), 1);
    Due.is("bolted once more", x.step(2, 3, 1, 5, 0), 0);
    x.plate(3, 4);
    x.terms(1, 1000);
    long[][] due = {{1, 3, 1, 2, 0, 0}, {2, 3, 0, 4, 0, 1}, {2, 3, 1, 5, 0, 0}};
    for (int i = 0; i < 3; i++) for (int what = 0; what < 6; what++) Due.is("step " + i + ", " + what, x.drawing(i, what), due[i][what]);
  }
}
