import java.util.Random;

/** Makes texts of rules by chance, most of them good, some just over a limit or spoilt. */
final class RuleMaker {
  private static final String[] PARTS = {"load", "dead", "tier", "side", "day", "holds", "leg", "floors", "age", "braces"};
  private static final String[] PLAINS = {"welded", "bolted", "mended", "face"};
  private static final String SPOIL = " ;()[]+-*/<>=&|Az09\tneedif";
  private final Random chance;

  RuleMaker(Random chance) { this.chance = chance; }

  String make() {
    String text = switch (chance.nextInt(12)) {
      case 0 -> manyLeaves();
      case 1 -> manyBrackets();
      case 2 -> manyClauses();
      default -> clauses(1 + chance.nextInt(4));
    };
    if (chance.nextInt(6) == 0) text = spoil(text);
    return text.length() > 400 ? text.substring(0, 400) : text;
  }

  private String clauses(int n) {
    StringBuilder b = new StringBuilder(gap(0));
    for (int i = 0; i < n; i++) {
      if (i > 0) b.append(gap(0)).append(';').append(gap(0));
      b.append(clause(3));
    }
    return b.append(gap(0)).toString();
  }

  private String clause(int depth) {
    String head = switch (chance.nextInt(5)) {
      case 0 -> "edge";
      case 1 -> "look" + gap(1) + sum(depth);
      default -> "need" + gap(1) + sum(depth);
    };
    return chance.nextInt(3) == 0 ? head : head + gap(1) + "if" + gap(1) + test(depth);
  }

  private String gap(int least) { return " ".repeat(Math.max(least, chance.nextInt(8) == 0 ? chance.nextInt(3) : least)); }

  private String test(int depth) {
    int kind = depth <= 0 ? chance.nextInt(2) : chance.nextInt(7);
    return switch (kind) {
      case 0 -> PLAINS[chance.nextInt(4)];
      case 1, 2 -> sum(depth - 1) + gap(0) + "<>=".charAt(chance.nextInt(3)) + gap(0) + sum(depth - 1);
      case 3 -> "not" + gap(1) + test(depth - 1);
      case 4 -> "(" + gap(0) + test(depth - 1) + gap(0) + ")";
      case 5 -> test(depth - 1) + gap(1) + "or" + gap(1) + test(depth - 1);
      default -> test(depth - 1) + gap(1) + "and" + gap(1) + test(depth - 1);
    };
  }

  private String sum(int depth) {
    int kind = depth <= 0 ? chance.nextInt(3) : chance.nextInt(7);
    return switch (kind) {
      case 0 -> number();
      case 1, 2 -> PARTS[chance.nextInt(10)];
      case 3 -> "[" + gap(0) + sum(depth - 1) + gap(0) + "]";
      default -> sum(depth - 1) + gap(0) + "+-*/".charAt(chance.nextInt(4)) + gap(0) + sum(depth - 1);
    };
  }

  private String number() {
    return switch (chance.nextInt(9)) {
      case 0 -> "100000";
      case 1 -> "0";
      case 2 -> "00" + chance.nextInt(50);
      case 3 -> chance.nextInt(4) == 0 ? "100001" : "99999";
      default -> Integer.toString(chance.nextInt(chance.nextBoolean() ? 10 : 3000));
    };
  }

  private String manyLeaves() {
    StringBuilder b = new StringBuilder("need ");
    int n = 48 + chance.nextInt(5);
    for (int i = 0; i < n; i++) b.append(i == 0 ? "" : i % 7 == 3 ? "-" : "+").append(chance.nextInt(3) == 0 ? "leg" : "" + i);
    return b.toString();
  }

  private String manyBrackets() {
    int n = 7 + chance.nextInt(3), tests = chance.nextInt(n + 1);
    StringBuilder b = new StringBuilder("need load if ");
    for (int i = 0; i < n; i++) b.append(i < tests ? chance.nextBoolean() ? "not (" : "(" : "[");
    b.append("load + 1");
    for (int i = n - 1; i >= tests; i--) b.append(']');
    b.append(chance.nextBoolean() ? " > 2" : " < tier*100");
    for (int i = 0; i < tests; i++) b.append(')');
    return b.toString();
  }

  private String manyClauses() {
    int n = 11 + chance.nextInt(3);
    StringBuilder b = new StringBuilder();
    for (int i = 0; i < n; i++) b.append(i == 0 ? "" : ";").append(i % 3 == 0 ? "edge" : i % 3 == 1 ? "need " + i + "*tier" : "look age-" + i);
    if (chance.nextInt(3) == 0) b.append(" ; ");
    return b.toString();
  }

  private String spoil(String text) {
    if (text.isEmpty()) return text;
    StringBuilder b = new StringBuilder(text);
    int at = chance.nextInt(b.length());
    switch (chance.nextInt(4)) {
      case 0 -> b.deleteCharAt(at);
      case 1 -> b.insert(at, SPOIL.charAt(chance.nextInt(SPOIL.length())));
      case 2 -> b.setLength(at);
      default -> b.setCharAt(at, chance.nextInt(3) == 0 ? (char) chance.nextInt(256) : SPOIL.charAt(chance.nextInt(SPOIL.length())));
    }
    return b.toString();
  }
}
