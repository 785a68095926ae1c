import java.util.ArrayList;
import java.util.Arrays;
import java.util.HashMap;
import java.util.List;
import java.util.Map;

/** A text of rules, read into trees and asked by going through them; BROKEN is null. */
final class Rules {
  /** What words tell, 0 if nothing was put. */
  static final class Asked {
    private final Map<String, Long> values = new HashMap<>();

    void put(String word, long value) { values.put(word, value); }

    long get(String word) { return values.getOrDefault(word, 0L); }
  }

  private interface Tree { Long ask(Asked q); }

  private record Token(String text, int place) { }

  private record Clause(String head, Tree sum, Tree test) { }

  private static final class Fault extends RuntimeException {
    private static final long serialVersionUID = 1;
  }

  private static final List<String> PARTS =
      Arrays.asList("load", "dead", "tier", "side", "day", "holds", "leg", "floors", "age", "braces");
  private static final List<String> PLAINS = Arrays.asList("welded", "bolted", "mended", "face");

  final int fault;
  private final List<Token> tokens = new ArrayList<>();
  private final List<Clause> clauses = new ArrayList<>();
  private int at = 0, leaves = 0, open = 0;

  Rules(String text) {
    cut(text);
    int place = -1;
    try {
      clause();
      while (is(";")) { at++; clause(); }
      if (!is("")) throw new Fault();
    } catch (Fault f) {
      place = tokens.get(at).place;
    }
    fault = place;
  }

  private void cut(String text) {
    java.util.regex.Matcher m = java.util.regex.Pattern.compile("[a-z]+|[0-9]+|[^ ]", java.util.regex.Pattern.DOTALL).matcher(text);
    while (m.find()) tokens.add(new Token(m.group(), m.start()));
    tokens.add(new Token("", text.length()));
  }

  private String token() { return tokens.get(at).text; }

  private boolean is(String... any) { return Arrays.asList(any).contains(token()); }

  private void want(String one) {
    if (!is(one)) throw new Fault();
    at++;
  }

  private void clause() {
    if (clauses.size() == 12) throw new Fault();
    String head = token();
    if (!is("need", "look", "edge")) throw new Fault();
    at++;
    Tree sum = head.equals("edge") ? q -> 0L : sum();
    Tree test = q -> 1L;
    if (is("if")) { at++; test = test(); }
    clauses.add(new Clause(head, sum, test));
  }

  private Tree test() {
    Tree left = both();
    while (is("or")) {
      at++;
      Tree l = left, r = both();
      left = q -> {
        Long a = l.ask(q);
        return a == null || a == 1 ? a : r.ask(q);
      };
    }
    return left;
  }

  private Tree both() {
    Tree left = plain();
    while (is("and")) {
      at++;
      Tree l = left, r = plain();
      left = q -> {
        Long a = l.ask(q);
        return a == null || a == 0 ? a : r.ask(q);
      };
    }
    return left;
  }

  private Tree plain() {
    if (is("not")) {
      at++;
      Tree of = plain();
      return q -> {
        Long a = of.ask(q);
        return a == null ? null : 1 - a;
      };
    }
    if (is("(")) return bracketed(")");
    if (PLAINS.contains(token())) return leaf();
    Tree l = sum();
    String sign = token();
    if (!is("<", ">", "=")) throw new Fault();
    at++;
    Tree r = sum();
    return q -> {
      Long a = l.ask(q), b = r.ask(q);
      if (a == null || b == null) return null;
      int c = Long.compare(a, b);
      return sign.equals("<") && c < 0 || sign.equals(">") && c > 0 || sign.equals("=") && c == 0 ? 1L : 0L;
    };
  }

  private Tree bracketed(String closing) {
    if (open == 8) throw new Fault();
    open++;
    at++;
    Tree inner = closing.equals(")") ? test() : sum();
    want(closing);
    open--;
    return inner;
  }

  private Tree sum() {
    Tree left = term();
    while (is("+", "-")) {
      String sign = token();
      at++;
      left = joined(left, sign, term());
    }
    return left;
  }

  private Tree term() {
    Tree left = part();
    while (is("*", "/")) {
      String sign = token();
      at++;
      left = joined(left, sign, part());
    }
    return left;
  }

  private static Tree joined(Tree l, String sign, Tree r) {
    return q -> {
      Long a = l.ask(q), b = r.ask(q);
      if (a == null || b == null || sign.equals("/") && b == 0) return null;
      long made = sign.equals("+") ? a + b : sign.equals("-") ? a - b : sign.equals("*") ? a * b : a / b;
      return made > 1_000_000_000L || made < -1_000_000_000L ? null : made;
    };
  }

  private Tree part() {
    if (is("[")) return bracketed("]");
    if (!PARTS.contains(token()) && !isNumber()) throw new Fault();
    return leaf();
  }

  private boolean isNumber() {
    return token().matches("[0-9]+") && new java.math.BigInteger(token()).compareTo(java.math.BigInteger.valueOf(100000)) <= 0;
  }

  private Tree leaf() {
    if (leaves == 50) throw new Fault();
    leaves++;
    String word = token();
    at++;
    if (!word.matches("[0-9]+")) return q -> q.get(word);
    long value = Long.parseLong(word);
    return q -> value;
  }

  /** What the last clause with such a head that holds tells; null without. */
  Long last(String head, Asked q) {
    Long told = null;
    for (Clause c : clauses) {
      if (!c.head.equals(head)) continue;
      Long so = c.test.ask(q), sum = c.sum.ask(q);
      if (so != null && so == 1 && sum != null) told = sum;
    }
    return told;
  }
}
