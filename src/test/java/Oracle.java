import java.util.ArrayList;
import java.util.Arrays;
import java.util.List;
import java.util.TreeMap;

/** The document once more, slowly and by other means: fractions, elimination, trees, all rows of mending. */
final class Oracle {
  static final int NONE = -1;
  private static final int[][] WAYS = {{10, 0}, {7, 7}, {0, 10}, {-7, 7}, {-10, 0}, {-7, -7}, {0, -10}, {7, -7}};

  /** What an image keeps. */
  private static final class Kept {
    int[] stiff = new int[48], bolted = new int[48], quarters = new int[48];
    int[] area = new int[6], dead = new int[6];
    int[] terms = {1000, 100, 10, 0, 0, 0, 1, 10, 1};
    List<int[]> winds = new ArrayList<>(), steps = new ArrayList<>(), streets = new ArrayList<>();
    List<int[]> storms = new ArrayList<>(), towers = new ArrayList<>();
    List<Rules> texts = new ArrayList<>();
    TreeMap<Integer, Integer> knew = new TreeMap<>();

    Kept() {
      Arrays.fill(stiff, 5);
      Arrays.fill(area, 10);
    }

    Kept copy() {
      Kept k = new Kept();
      k.stiff = stiff.clone(); k.bolted = bolted.clone(); k.quarters = quarters.clone();
      k.area = area.clone(); k.dead = dead.clone(); k.terms = terms.clone();
      k.winds = new ArrayList<>(winds); k.steps = new ArrayList<>(steps); k.streets = new ArrayList<>(streets);
      k.storms = new ArrayList<>(storms); k.towers = new ArrayList<>(towers); k.texts = new ArrayList<>(texts);
      k.knew = new TreeMap<>(knew);
      return k;
    }

    int holds(int joint) { return holds(bolted[joint], quarters[joint]); }

    int holds(int isBolted, int q) {
      return isBolted == 0 ? terms[0] : terms[1] + (int) Math.floor((terms[0] - terms[1]) * (double) q / 4);
    }
  }

  private Kept s = new Kept();
  private final Kept[] images = new Kept[2];
  private int[] tape = new int[0];
  private int fault = NONE, status = 0;
  private List<Integer> wishes = new ArrayList<>();
  private int[] latest = new int[0];

  private int answer(int value) { status = 0; return value; }

  private int refuse(int why) { status = why; return why; }

  private static boolean out(int v, int low, int high) { return v < low || v > high; }

  // ---------------------------------------------------------------- loads

  /** What each face of a tier bears by stiffness 1, or null if it stands not; then its uprights. */
  private Fraction[][] solve(int wind, int current, int tier, boolean[] gone, int leg) {
    int[] w = s.winds.get(wind);
    Fraction shear = Fraction.ZERO, lever = Fraction.ZERO;
    for (int t = tier; t < 6; t++) {
      shear = shear.plus(Fraction.of((long) w[1] * s.area[t]));
      lever = lever.plus(Fraction.of((long) w[1] * s.area[t] * (t - tier + 1)));
    }
    int left = current == 1 ? 100 - s.terms[4] : 100;
    Fraction east = shear.times(WAYS[w[0]][0]).times(left).through(1000);
    Fraction north = shear.times(WAYS[w[0]][1]).times(left).through(1000);
    Fraction lean = Fraction.of(s.terms[2]).through(100).times(10 - leg).through(10);
    Fraction upEast = lever.times(WAYS[w[0]][0]).times(left).through(1000).times(lean);
    Fraction upNorth = lever.times(WAYS[w[0]][1]).times(left).through(1000).times(lean);
    Fraction[] up = {upNorth, upEast, upNorth.times(-1), upEast.times(-1)};
    long[] k = new long[4];
    for (int j = 0; j < 8; j++) if (!gone[8 * tier + j]) k[j / 2] += s.stiff[8 * tier + j];
    for (int f = 0; f < 4; f++) if (k[f] == 0 && !up[f].isZero()) return null;
    // Unknown x, y, w; the rows are the document's three sentences.
    long[][] a = {
      {k[0] + k[2], 0, -k[0] + k[2]},
      {0, k[1] + k[3], k[1] - k[3]},
      {-k[0] + k[2], k[1] - k[3], k[0] + k[2] + k[1] + k[3]}};
    Fraction[] v = eliminate(a, new Fraction[] {east, north, Fraction.ZERO});
    if (v == null) return null;
    Fraction[] moved = {v[0].minus(v[2]), v[1].plus(v[2]), v[0].plus(v[2]), v[1].minus(v[2])};
    return new Fraction[][] {moved, up, {Fraction.of(k[0]), Fraction.of(k[1]), Fraction.of(k[2]), Fraction.of(k[3])}};
  }

  private static Fraction[] eliminate(long[][] a, Fraction[] right) {
    Fraction[][] m = new Fraction[3][4];
    for (int i = 0; i < 3; i++) {
      for (int j = 0; j < 3; j++) m[i][j] = Fraction.of(a[i][j]);
      m[i][3] = right[i];
    }
    for (int c = 0; c < 3; c++) {
      int p = c;
      while (p < 3 && m[p][c].isZero()) p++;
      if (p == 3) return null;
      Fraction[] swap = m[p]; m[p] = m[c]; m[c] = swap;
      for (int i = 0; i < 3; i++) {
        if (i == c) continue;
        Fraction by = m[i][c].through(m[c][c]);
        for (int j = c; j < 4; j++) m[i][j] = m[i][j].minus(m[c][j].times(by));
      }
    }
    return new Fraction[] {m[0][3].through(m[0][0]), m[1][3].through(m[1][1]), m[2][3].through(m[2][2])};
  }

  private Fraction pull(Fraction[][] solved, int joint) {
    int face = joint % 8 / 2;
    Fraction shifted = solved[0][face].times(s.stiff[joint]).times(joint % 2 == 0 ? 1 : -1);
    return shifted.plus(solved[1][face].times(s.stiff[joint]).through(solved[2][face])).minus(Fraction.of(s.dead[joint / 8]));
  }

  private Fraction tensionOf(int wind, int joint, int current, int leg) {
    return pull(solve(wind, current, joint / 8, new boolean[48], leg), joint);
  }

  /** The joints that go in their order, and at the end the tier that stands not or NONE. */
  private List<Integer> cascade(int wind, int current, int[] holds) {
    List<Integer> order = new ArrayList<>();
    boolean[] gone = new boolean[48];
    while (true) {
      int next = NONE;
      long most = 0;
      Fraction[][][] solved = new Fraction[6][][];
      for (int t = 0; t < 6; t++) {
        solved[t] = solve(wind, current, t, gone, s.terms[3]);
        if (solved[t] == null) { order.add(t); return order; }
      }
      for (int j = 0; j < 48; j++) {
        if (gone[j]) continue;
        Fraction over = pull(solved[j / 8], j).minus(Fraction.of(holds[j]));
        if (over.compareTo(Fraction.ZERO) <= 0) continue;
        long cut = over.times(1000).cut();
        if (next == NONE || cut > most) { next = j; most = cut; }
      }
      if (next == NONE) { order.add(NONE); return order; }
      gone[next] = true;
      order.add(next);
    }
  }

  private int[] holdsNow() {
    int[] h = new int[48];
    for (int j = 0; j < 48; j++) h[j] = s.holds(j);
    return h;
  }

  private int fallen(int wind, int current, int[] holds) {
    List<Integer> c = cascade(wind, current, holds);
    return c.get(c.size() - 1);
  }

  private long year(int[] holds, int fails) {
    long sum = 0;
    for (int w = 0; w < s.winds.size(); w++) {
      long odds = s.winds.get(w)[2];
      if (fallen(w, 1, holds) != NONE) sum += odds * (100 - fails);
      if (fallen(w, 0, holds) != NONE) sum += odds * fails;
    }
    return sum;
  }

  private boolean noWind(int wind, int current) { return out(wind, 0, s.winds.size() - 1) || out(current, 0, 1); }

  // ---------------------------------------------------------------- the face, promises 2 to 10

  int stiff(int joint, int value) {
    if (out(joint, 0, 47) || out(value, 1, 9)) return refuse(-1);
    int was = s.stiff[joint];
    s.stiff[joint] = value;
    return answer(was);
  }

  int tier(int tier, int what, int value) {
    if (out(tier, 0, 5) || out(what, 0, 1) || out(value, 0, what == 0 ? 20 : 100000)) return refuse(-1);
    int[] row = what == 0 ? s.area : s.dead;
    int was = row[tier];
    row[tier] = value;
    return answer(was);
  }

  int terms(int what, int value) {
    int[][] range = {{1, 100000}, {1, 100000}, {0, 100}, {0, 10}, {0, 50}, {0, 100}, {0, 1000}, {0, 1000}, {1, 40}};
    if (out(what, 0, 8) || out(value, range[what][0], range[what][1])) return refuse(-1);
    if (what == 0 && value < s.terms[1] || what == 1 && value > s.terms[0]) return refuse(-3);
    int was = s.terms[what];
    s.terms[what] = value;
    return answer(was);
  }

  int wind(int way, int force, int odds) {
    if (out(way, 0, 7) || out(force, 1, 100) || out(odds, 1, 1000000)) return refuse(-1);
    if (s.winds.size() == 16) return refuse(-5);
    s.winds.add(new int[] {way, force, odds});
    return answer(s.winds.size() - 1);
  }

  int plate(int joint, int quarters) {
    if (out(joint, 0, 47) || out(quarters, 0, 4)) return refuse(-1);
    if (s.bolted[joint] == 0) return refuse(-3);
    int had = s.quarters[joint];
    s.quarters[joint] = quarters;
    return answer(had);
  }

  int joint(int joint, int what) {
    if (out(joint, 0, 47) || out(what, 0, 3)) return NONE;
    return new int[] {s.bolted[joint], s.quarters[joint], s.holds(joint), s.stiff[joint]}[what];
  }

  long tension(int wind, int joint, int current) {
    if (noWind(wind, current) || out(joint, 0, 47)) return -1000000000000L;
    return tensionOf(wind, joint, current, s.terms[3]).times(1000).cut();
  }

  int goes(int wind, int current, int i) {
    if (noWind(wind, current)) return NONE;
    List<Integer> c = cascade(wind, current, holdsNow());
    if (i == NONE) return c.size() - 1;
    return out(i, 0, c.size() - 2) ? NONE : c.get(i);
  }

  int falls(int wind, int current) { return noWind(wind, current) ? NONE : fallen(wind, current, holdsNow()); }

  // ---------------------------------------------------------------- the tape and the rules, promises 11 to 18

  int feed(int a, int b, int c, int d, int e) {
    if (tape.length > 380) return NONE;
    int at = tape.length;
    tape = Arrays.copyOf(tape, at + 20);
    for (int n : new int[] {a, b, c, d, e}) {
      tape[at++] = n >> 24 & 255; tape[at++] = n >> 16 & 255; tape[at++] = n >> 8 & 255; tape[at++] = n & 255;
    }
    return tape.length;
  }

  int end(int n) {
    if (out(n, 0, tape.length)) return NONE;
    tape = Arrays.copyOf(tape, n);
    return n;
  }

  int rule() {
    StringBuilder b = new StringBuilder();
    for (int v : tape) b.append((char) v);
    tape = new int[0];
    if (s.texts.size() == 8) return refuse(-5);
    Rules r = new Rules(b.toString());
    fault = r.fault;
    if (r.fault != NONE) return refuse(-6);
    s.texts.add(r);
    return answer(s.texts.size() - 1);
  }

  int fault() { return fault; }

  private Rules.Asked asked(int joint, int day, int wind) {
    Rules.Asked q = new Rules.Asked();
    q.put("load", tensionOf(wind, joint, 1, s.terms[3]).plus(Fraction.of(s.dead[joint / 8])).cut());
    q.put("dead", s.dead[joint / 8]);
    q.put("tier", joint / 8);
    q.put("side", joint % 8 / 2);
    q.put("day", day);
    q.put("holds", s.holds(joint));
    q.put("leg", s.terms[3]);
    q.put("welded", s.bolted[joint] == 0 ? 1 : 0);
    q.put("bolted", s.bolted[joint]);
    q.put("mended", s.bolted[joint] == 1 && s.quarters[joint] > 0 ? 1 : 0);
    q.put("face", s.winds.get(wind)[0] % 2 == 0 ? 1 : 0);
    return q;
  }

  int need(int text, int joint, int day) {
    if (out(text, 0, s.texts.size() - 1) || out(joint, 0, 47) || out(day, 0, 9999)) return NONE;
    Rules r = s.texts.get(text);
    long most = 0;
    for (int w = 0; w < s.winds.size(); w++) {
      Rules.Asked q = asked(joint, day, w);
      if (s.winds.get(w)[0] % 2 == 1 && r.last("edge", q) == null) continue;
      Long told = r.last("need", q);
      if (told != null) most = Math.max(most, told);
    }
    return (int) most;
  }

  int step(int day, int joint, int kind, int person, int text) {
    if (out(day, 0, 9999) || out(joint, 0, 47) || out(kind, 0, 1) || out(person, 0, 7)) return refuse(-1);
    if (out(text, 0, s.texts.size() - 1)) return refuse(-2);
    if (!s.steps.isEmpty() && s.steps.get(s.steps.size() - 1)[0] > day) return refuse(-3);
    if (s.steps.size() == 60) return refuse(-5);
    s.bolted[joint] = kind;
    s.quarters[joint] = 0;
    int let = s.holds(joint) >= need(text, joint, day) ? 1 : 0;
    s.steps.add(new int[] {day, joint, kind, person, text, let});
    return answer(let);
  }

  int drawing(int i, int what) { return out(i, 0, s.steps.size() - 1) || out(what, 0, 5) ? NONE : s.steps.get(i)[what]; }

  int saw() {
    int[] holds = new int[48];
    Arrays.fill(holds, s.terms[0]);
    for (int i = 0; i < s.steps.size(); i++) {
      int[] behind = holds.clone();
      behind[s.steps.get(i)[1]] = s.holds(s.steps.get(i)[2], 0);
      for (int w = 0; w < s.winds.size(); w++) {
        if (fallen(w, 1, behind) != NONE && fallen(w, 1, holds) == NONE) return i;
      }
      holds = behind;
    }
    return NONE;
  }

  // ---------------------------------------------------------------- odds and mending, promises 19 to 26

  int odds(int what) {
    if (out(what, 0, 2)) return NONE;
    int f = s.terms[5];
    long is = year(holdsNow(), f);
    if (what == 0) return (int) is;
    return (int) (what == 1 ? year(holdsNow(), 100) - is : is - year(holdsNow(), f * f / 100));
  }

  int wish(int joint) {
    if (out(joint, 0, 47)) return refuse(-1);
    if (s.bolted[joint] == 0) return refuse(-3);
    if (wishes.contains(joint)) return refuse(-4);
    if (wishes.size() == 9) return refuse(-5);
    wishes.add(joint);
    return answer(wishes.size());
  }

  int clear() {
    int were = wishes.size();
    wishes = new ArrayList<>();
    return were;
  }

  private long[] years() {
    if (wishes.isEmpty()) return null;
    for (int j : wishes) if (s.bolted[j] == 0) return null;
    long[] years = new long[1 << wishes.size()];
    for (int set = 0; set < years.length; set++) {
      int[] holds = holdsNow();
      for (int i = 0; i < wishes.size(); i++) if ((set >> i & 1) == 1) holds[wishes.get(i)] = s.holds(1, 4);
      years[set] = year(holds, s.terms[5]);
    }
    return years;
  }

  private long least;

  /** All rows, the first ones first; only a lesser risk takes the place of what was found. */
  private void tryRows(long[] years, int[] row, int night, int set, long risk) {
    if (night == row.length) {
      if (risk < least) { least = risk; latest = row.clone(); }
      return;
    }
    for (int i = 0; i < row.length; i++) {
      if ((set >> i & 1) == 1) continue;
      row[night] = i;
      tryRows(years, row, night + 1, set | 1 << i, risk + years[set]);
    }
  }

  long best() {
    long[] years = years();
    if (years == null) return NONE;
    least = Long.MAX_VALUE;
    tryRows(years, new int[wishes.size()], 0, 0, 0);
    return least;
  }

  int night(int night) { return out(night, 0, latest.length - 1) ? NONE : latest[night]; }

  long low() {
    long[] years = years();
    if (years == null) return NONE;
    long sum = 0;
    for (int k = 0; k < wishes.size(); k++) {
      long min = Long.MAX_VALUE;
      for (int set = 0; set < years.length; set++) if (Integer.bitCount(set) == k) min = Math.min(min, years[set]);
      sum += min;
    }
    return sum;
  }

  private boolean isEnough(int joint, int leg) {
    for (int a = 0; a < s.winds.size(); a++) {
      if (s.winds.get(a)[0] % 2 == 0) continue;
      boolean covered = false;
      for (int f = 0; f < s.winds.size(); f++) {
        covered |= s.winds.get(f)[0] % 2 == 0 && tensionOf(f, joint, 1, leg).compareTo(tensionOf(a, joint, 1, leg)) >= 0;
      }
      if (!covered) return false;
    }
    return true;
  }

  int enough(int joint) { return out(joint, 0, 47) ? NONE : isEnough(joint, s.terms[3]) ? 1 : 0; }

  int move() {
    for (int leg = s.terms[3]; leg <= 10; leg++) {
      boolean all = true;
      for (int j = 0; j < 48 && all; j++) all = isEnough(j, leg);
      if (all) return leg;
    }
    return NONE;
  }

  // ---------------------------------------------------------------- the rest

  private int knewOr(int person, int fact) { return s.knew.getOrDefault(person * 8 + fact, 1000000); }

  int find(int person, int fact, int day) {
    if (out(person, 0, 7) || out(fact, 0, 7) || out(day, 0, 9999)) return refuse(-1);
    s.knew.merge(person * 8 + fact, day, Math::min);
    return answer(0);
  }

  int tell(int from, int to, int fact, int day) {
    if (out(from, 0, 7) || out(to, 0, 7) || out(fact, 0, 7) || out(day, 0, 9999)) return refuse(-1);
    if (knewOr(from, fact) > day) return refuse(-3);
    s.knew.merge(to * 8 + fact, day, Math::min);
    return answer(0);
  }

  int knew(int person, int fact) {
    return out(person, 0, 7) || out(fact, 0, 7) ? NONE : s.knew.getOrDefault(person * 8 + fact, NONE);
  }

  int owed(int person, int day, int grace) {
    if (out(person, 0, 7) || out(day, 0, 9999) || out(grace, 0, 9999)) return NONE;
    int n = 0;
    for (int f = 0; f < 8; f++) {
      boolean other = false;
      for (int p = 0; p < 8; p++) other |= p != person && day - knewOr(p, f) >= grace;
      if (other && knewOr(person, f) > day) n++;
    }
    return n;
  }

  int street(int way, int far, int people) {
    if (out(way, 0, 7) || out(far, 1, 20) || out(people, 0, 10000)) return refuse(-1);
    if (s.streets.size() == 32) return refuse(-5);
    s.streets.add(new int[] {way, far, people});
    return answer(s.streets.size() - 1);
  }

  int under(int wind, int current) {
    if (noWind(wind, current)) return NONE;
    int t = fallen(wind, current, holdsNow());
    if (t == NONE) return 0;
    int height = (6 - t) * 3, way = s.winds.get(wind)[0], sum = 0;
    for (int[] street : s.streets) {
      if (street[0] == way && street[1] <= height) sum += street[2];
      if ((street[0] == (way + 1) % 8 || street[0] == (way + 7) % 8) && street[1] <= height / 2) sum += street[2];
    }
    return sum;
  }

  int row() {
    int[] bytes = tape;
    tape = new int[0];
    if (s.storms.size() == 20) return refuse(-5);
    if (bytes.length < 2 || bytes.length > 41 || bytes[0] > 1) return refuse(-6);
    s.storms.add(bytes);
    return answer(s.storms.size());
  }

  int call(int limit) {
    if (out(limit, 0, 100)) return NONE;
    int cost = 0;
    for (int[] storm : s.storms) {
      int called = 0, odds = 0;
      for (int h = 1; h < storm.length && called == 0; h++) {
        if (storm[h] <= 100) odds = storm[h];
        if (odds >= limit) called = h;
      }
      if (called > 0) cost += s.terms[6];
      if (storm[0] == 1 && (called == 0 || storm.length - called < s.terms[8])) cost += s.terms[7];
    }
    return cost;
  }

  int when() {
    if (s.storms.isEmpty()) return NONE;
    int at = 100;
    for (int c = 99; c >= 0; c--) if (call(c) < call(at)) at = c;
    return at;
  }

  int tower(int floors, int age, int braces, int leg, int bolted) {
    if (out(floors, 1, 200) || out(age, 0, 100) || out(braces, 0, 400) || out(leg, 0, 10) || out(bolted, 0, 1)) return refuse(-1);
    if (s.towers.size() == 12) return refuse(-5);
    s.towers.add(new int[] {floors, age, braces, leg, bolted});
    return answer(s.towers.size() - 1);
  }

  int first(int text) {
    if (out(text, 0, s.texts.size() - 1)) return NONE;
    int at = NONE;
    Long most = null;
    for (int i = 0; i < s.towers.size(); i++) {
      int[] t = s.towers.get(i);
      Rules.Asked q = new Rules.Asked();
      q.put("floors", t[0]); q.put("age", t[1]); q.put("braces", t[2]); q.put("leg", t[3]); q.put("bolted", t[4]);
      Long told = s.texts.get(text).last("look", q);
      if (told != null && (most == null || told > most)) { at = i; most = told; }
    }
    return at;
  }

  int image(int k) {
    if (out(k, 0, 1)) return refuse(-1);
    images[k] = s.copy();
    return answer(0);
  }

  int back(int k) {
    if (out(k, 0, 1)) return refuse(-1);
    if (images[k] == null) return refuse(-2);
    s = images[k].copy();
    return answer(0);
  }

  int count(int what) {
    if (out(what, 0, 7)) return NONE;
    return new int[] {s.winds.size(), s.texts.size(), s.steps.size(), wishes.size(), s.streets.size(), s.storms.size(),
      s.towers.size(), tape.length}[what];
  }

  int status() { return status; }
}
