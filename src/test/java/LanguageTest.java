import java.lang.reflect.Field;
import java.lang.reflect.Member;
import java.lang.reflect.Method;
import java.lang.reflect.Modifier;
import java.nio.file.Files;
import java.nio.file.Path;
import java.util.Arrays;
import java.util.HashSet;
import java.util.List;
import java.util.Set;
import java.util.TreeSet;
import java.util.regex.Matcher;
import java.util.regex.Pattern;

/** The rules of LANGUAGE.md that can be looked at from outside: the face, the words used, sizes, what a run makes. */
public final class LanguageTest {
  private static final String FACE = """
      stiff(int,int)int tier(int,int,int)int terms(int,int)int wind(int,int,int)int plate(int,int)int joint(int,int)int
      tension(int,int,int)long goes(int,int,int)int falls(int,int)int feed(int,int,int,int,int)int end(int)int rule()int
      fault()int need(int,int,int)int step(int,int,int,int,int)int drawing(int,int)int saw()int odds(int)int wish(int)int
      clear()int best()long night(int)int low()long enough(int)int move()int find(int,int,int)int tell(int,int,int,int)int
      knew(int,int)int owed(int,int,int)int street(int,int,int)int under(int,int)int row()int call(int)int when()int
      tower(int,int,int,int,int)int first(int)int image(int)int back(int)int count(int)int status()int""";
  private static final int METHOD_LINES = 60, CLASSES = 12, FIELDS = 20, PARAMETERS = 7;

  public static void main(String[] args) throws Exception {
    face();
    classes();
    String source = Files.readString(Path.of(System.getProperty("project", "."), "src/main/java/CornerWinds.java"));
    words(source);
    lengths(source);
    neverThrows();
    room();
    Due.close("LanguageTest");
  }

  private static void no(String what, boolean found) { Due.is(what, found ? 1 : 0, 0); }

  private static String shape(Method m) {
    StringBuilder b = new StringBuilder(m.getName()).append('(');
    for (Class<?> p : m.getParameterTypes()) b.append(b.charAt(b.length() - 1) == '(' ? "" : ",").append(p.getName());
    return b.append(')').append(m.getReturnType().getName()).toString();
  }

  private static void face() throws Exception {
    Set<String> due = new TreeSet<>(Arrays.asList(FACE.split("\\s+"))), is = new TreeSet<>(), names = new HashSet<>();
    for (Method m : CornerWinds.class.getDeclaredMethods()) {
      if (!Modifier.isPrivate(m.getModifiers())) is.add(shape(m));
      no("static face " + m, Modifier.isPublic(m.getModifiers()) && Modifier.isStatic(m.getModifiers()));
    }
    no("a face other than the document's: " + is, !is.equals(due));
    for (String one : due) names.add(one.substring(0, one.indexOf('(')));
    Class<?>[] inside = CornerWinds.class.getDeclaredClasses();
    for (Class<?> c : inside) for (Method m : c.getDeclaredMethods()) no("a public one's name: " + m, names.contains(m.getName()));
    for (Method m : CornerWinds.class.getDeclaredMethods()) {
      no("a public one's name: " + m, Modifier.isPrivate(m.getModifiers()) && names.contains(m.getName()));
    }
    for (Field f : CornerWinds.class.getDeclaredFields()) {
      no("visible " + f, !Modifier.isPrivate(f.getModifiers()) && !f.getName().equals("NONE"));
    }
    Due.is("constructors", CornerWinds.class.getDeclaredConstructors().length, 1);
    Due.is("a public constructor", CornerWinds.class.getConstructor().getParameterCount(), 0);
    int modifiers = CornerWinds.class.getModifiers();
    Due.is("public and final", Modifier.isPublic(modifiers) && Modifier.isFinal(modifiers) ? 1 : 0, 1);
    modifiers = CornerWinds.class.getField("NONE").getModifiers();
    Due.is("NONE is a constant", Modifier.isStatic(modifiers) && Modifier.isFinal(modifiers) ? 1 : 0, 1);
  }

  private static void classes() {
    List<Class<?>> all = new java.util.ArrayList<>(Arrays.asList(CornerWinds.class.getDeclaredClasses()));
    for (Class<?> c : all) no("not static or too visible: " + c, !Modifier.isStatic(c.getModifiers()) || Modifier.isPublic(c.getModifiers()));
    all.add(CornerWinds.class);
    no("too many classes", all.size() > CLASSES);
    for (Class<?> c : all) {
      int fields = 0;
      for (Field f : c.getDeclaredFields()) {
        if (!Modifier.isStatic(f.getModifiers())) fields++;
        no("static and not final: " + f, Modifier.isStatic(f.getModifiers()) && !Modifier.isFinal(f.getModifiers()));
      }
      no("too many fields: " + c, fields > FIELDS);
      for (Method m : c.getDeclaredMethods()) no("too many parameters: " + m, m.getParameterCount() > PARAMETERS);
      for (Member m : c.getDeclaredMethods()) no("made by the compiler: " + m, m.isSynthetic());
    }
  }

  private static void words(String source) {
    String plain = source.replaceAll("/\\*[\\s\\S]*?\\*/", " ").replaceAll("//[^\n]*", " ").replaceAll("\"[^\"\n]*\"", "\"\"");
    for (String word : "throw throws try catch synchronized assert package record yield var double float Random Thread".split(" ")) {
      no("the word " + word, Pattern.compile("\\b" + word + "\\b").matcher(plain).find());
    }
    for (String sign : List.of("->", "::", "@", "Exact", "\"\" +", "+ \"\"", ".values()", "MAX_VALUE", "MIN_VALUE")) {
      no("the sign " + sign, plain.contains(sign));
    }
    Matcher imports = Pattern.compile("import ([^;]+);").matcher(plain);
    while (imports.find()) Due.is("import " + imports.group(1), imports.group(1).equals("java.util.Arrays") ? 1 : 0, 1);
    Matcher calls = Pattern.compile("\\b(System|Arrays|Integer|Long|Math)\\.(\\w+)").matcher(plain);
    Set<String> let = Set.of("System.arraycopy", "Arrays.fill", "Arrays.copyOf", "Integer.bitCount", "Math.max", "Math.min");
    while (calls.find()) Due.is(calls.group(), let.contains(calls.group()) ? 1 : 0, 1);
    for (char c : source.toCharArray()) if (c > 126 || c < 32 && c != '\n') no("a sign beyond 126 or below 32", true);
  }

  /** A method opens with its name's line and closes with a bracket as far in. */
  private static void lengths(String source) {
    String[] lines = source.split("\n");
    int methods = 0;
    for (int i = 0; i < lines.length; i++) {
      Matcher head = Pattern.compile("^( {4}| {8})\\w[^=;]*\\(.*").matcher(lines[i]);
      if (!head.matches() || lines[i].endsWith(";")) continue;
      int last = i;
      while (!lines[last].equals(head.group(1) + "}") && !lines[last].equals(head.group(1) + "};")) last++;
      no("too long: " + lines[i], last - i + 1 > METHOD_LINES);
      methods++;
      i = last;
    }
    no("methods were not found", methods < 90);
  }

  /** Any numbers in any order, far beyond the 512 calls of an object; an exception would end the test. */
  private static void neverThrows() throws Exception {
    Method[] methods = CornerWinds.class.getMethods();
    Arrays.sort(methods, java.util.Comparator.comparing(Method::getName));
    java.util.Random chance = new java.util.Random(41);
    for (int object = 0; object < 20; object++) {
      CornerWinds x = new CornerWinds();
      int[] edges = {-1, 0, 1, 2, 3, 7, 8, 15, 40, 47, 48, 100, 9999, 100_000, Integer.MIN_VALUE, Integer.MAX_VALUE};
      for (int i = 0; i < 4000; i++) {
        Method m = methods[chance.nextInt(methods.length)];
        if (m.getDeclaringClass() != CornerWinds.class) continue;
        Object[] args = new Object[m.getParameterCount()];
        for (int a = 0; a < args.length; a++) args[a] = object % 4 == 0 ? chance.nextInt() : edges[chance.nextInt(object % 2 == 0 ? edges.length : 6)];
        m.invoke(x, args);
        if (chance.nextInt(30) == 0) {
          x.end(0);
          Due.rule(x, chance.nextBoolean() ? "need load; edge if tier<day; look age/leg" : "need 1/side if not face");
        }
      }
      Due.is("never throws", 0, 0);
    }
  }

  private static long bytesMade() {
    com.sun.management.ThreadMXBean bean = (com.sun.management.ThreadMXBean) java.lang.management.ManagementFactory.getThreadMXBean();
    return bean.getThreadAllocatedBytes(Thread.currentThread().getId());
  }

  /** What calls make: a text is as long as it is, an image is made once, all else makes nothing. */
  private static void room() {
    CornerWinds x = Due.tower();
    for (int i = 0; i < 16; i++) x.wind(i % 8, 30 + i, 1 + i);
    x.terms(4, 20);
    Due.bolt(x, 0, 1, 2, 3, 8, 9, 10);
    for (int joint : new int[] {0, 1, 2, 3, 8, 9, 10}) x.wish(joint);
    x.image(0);
    x.image(1);
    allThatAsk(x);
    bytesMade();
    // What the counting itself makes is no more than this.
    long own = 2000;
    long had = bytesMade();
    for (int i = 0; i < 400; i++) allThatAsk(x);
    long made = bytesMade() - had;
    no("calls that ask make objects: " + made, made > own);
    long before = bytesMade();
    CornerWinds y = new CornerWinds();
    made = bytesMade() - before;
    no("a new object is too large: " + made + y.count(0), made > 40_000);
    x.back(0);
    before = bytesMade();
    x.feed(0x6E656564, 0x20312B31, 0x2B312B31, 0x2B312B31, 0x2B312B31);
    x.rule();
    made = bytesMade() - before;
    no("a text is too large: " + made, made > own + 400);
  }

  private static void allThatAsk(CornerWinds x) {
    x.tension(0, 0, 1);
    x.goes(0, 0, -1);
    x.falls(3, 1);
    x.need(0, 3, 4);
    x.step(0, 20, 0, 0, 0);
    x.saw();
    x.odds(1);
    x.best();
    x.low();
    x.enough(3);
    x.move();
    x.under(0, 0);
    x.when();
    x.first(0);
    x.image(0);
    x.back(1);
    x.rule();
    x.row();
  }
}
