import java.lang.reflect.InvocationTargetException;
import java.lang.reflect.Method;
import java.util.ArrayList;
import java.util.HashMap;
import java.util.List;
import java.util.Map;

/** A new object of the class and the oracle beside it: each call goes to both, and their answers must be alike. */
final class Both {
  private static final Map<String, Method> CLASS = byName(CornerWinds.class), ORACLE = byName(Oracle.class);

  private final CornerWinds is = new CornerWinds();
  private final Oracle due = new Oracle();
  private final List<String> calls = new ArrayList<>();
  boolean wrong = false;

  private static Map<String, Method> byName(Class<?> type) {
    Map<String, Method> methods = new HashMap<>();
    for (Method m : type.getDeclaredMethods()) {
      if (java.lang.reflect.Modifier.isPrivate(m.getModifiers()) || m.isSynthetic()) continue;
      m.setAccessible(true);
      methods.put(m.getName(), m);
    }
    return methods;
  }

  static java.util.Set<String> names() { return CLASS.keySet(); }

  int made() { return calls.size(); }

  long go(String name, int... numbers) {
    Object[] args = new Object[numbers.length];
    for (int i = 0; i < numbers.length; i++) args[i] = numbers[i];
    try {
      long got = ((Number) CLASS.get(name).invoke(is, args)).longValue();
      long want = ((Number) ORACLE.get(name).invoke(due, args)).longValue();
      calls.add(name + java.util.Arrays.toString(numbers) + " -> " + got);
      if (got != want && !wrong) {
        wrong = true;
        System.out.println("wrong, due is " + want + ", behind these calls:");
        for (String c : calls) System.out.println("  " + c);
      }
      return got;
    } catch (InvocationTargetException e) {
      wrong = true;
      System.out.println(name + java.util.Arrays.toString(numbers) + " threw " + e.getCause() + " behind " + calls);
      return 0;
    } catch (IllegalAccessException e) {
      throw new IllegalStateException(e);
    }
  }

  /** Puts bytes behind the tape and cuts it there; false if there is no room. */
  boolean write(int[] bytes) {
    int had = (int) go("count", 7);
    for (int from = 0; from < bytes.length; from += 20) {
      int[] n = new int[5];
      for (int i = 0; i < 20; i++) n[i / 4] = n[i / 4] << 8 | (from + i < bytes.length ? bytes[from + i] & 255 : 0);
      if (go("feed", n) == -1) return false;
    }
    return go("end", had + bytes.length) >= 0;
  }

  boolean write(String text) {
    int[] bytes = new int[text.length()];
    for (int i = 0; i < bytes.length; i++) bytes[i] = text.charAt(i);
    return write(bytes);
  }
}
