import java.lang.reflect.InvocationTargetException;
import java.lang.reflect.Method;
import java.util.HashMap;
import java.util.Map;
import java.util.Random;

/** Runs of drawn calls on the class and on Oracle side by side. Draws are seeded: every run of the test is the same. */
public final class OracleTest {
  /** How often a call is drawn, its name, and what its arguments are drawn for. */
  private static final String[] CALLS = {
      "3 row s rowsort len", "8 set s i told", "3 copy s s i i len", "2 element s i", "1 holds s", "2 show s l",
      "4 says s kind", "2 sides n", "5 scoop sort amount", "3 sun bits", "4 ask what v", "3 licker kind a",
      "1 feed byte", "1 wipe", "2 scoopOf sc four", "3 wet sc side", "1 lickerOf l four", "2 sunny side", "2 without span",
      "2 spare", "4 run l span four", "4 would l", "2 plan k k", "2 best span", "2 until l", "2 spareBy l",
      "2 both l l span", "2 holdFor span", "1 largest sort span", "3 order span sc", "2 shade span", "2 gives", "2 wettest",
      "1 largestScoop", "2 melted", "3 judge s len", "3 behind s len four", "3 done s len", "3 drop i", "4 went s len",
      "8 act act", "3 licks l truth", "3 swap sc sc", "3 day l truth", "1 anew", "1 seed any", "1 image", "1 back"};
  private static final String[] WORDS = {"sides", "scoop", "sun", "hold", "brim", "licker", "lick", "sid", "licks"};
  private static final int RUNS = 400;

  private static final Due due = new Due("OracleTest");
  private static final Map<String, Method> mine = methodsOf(BeforeItDrips.class);
  private static final Map<String, Method> theirs = methodsOf(Oracle.class);
  private static Random random = new Random(1);

  public static void main(String[] args) throws ReflectiveOperationException {
    for (int run = 0; run < RUNS; run++) {
      random = new Random(1000 + run);
      oneRun(run);
    }
    due.end();
  }

  private static Map<String, Method> methodsOf(Class<?> type) {
    Map<String, Method> all = new HashMap<>();
    for (Method m : type.getDeclaredMethods()) {
      all.put(m.getName(), m);
    }
    return all;
  }

  private static void oneRun(int run) throws ReflectiveOperationException {
    BeforeItDrips x = new BeforeItDrips();
    Oracle o = new Oracle();
    int calls = run % 2 == 0 ? 0 : fullCone(run, x, o);
    while (calls < 512) {
      if (random.nextInt(25) == 0 || calls == 0) {
        String text = kerbText();
        for (int i = 0; i < text.length() && calls < 500; i++) {
          compare(run, x, o, "feed", (long) text.charAt(i));
          calls++;
        }
        compare(run, x, o, "kerb");
      } else {
        String[] call = drawnCall();
        Object[] arguments = new Object[call.length - 2];
        for (int i = 0; i < arguments.length; i++) {
          arguments[i] = argument(call[i + 2]);
        }
        compare(run, x, o, call[1], arguments);
      }
      calls++;
      if (calls % 16 == 0) {
        compareAll(run, x, o);
      }
    }
    compareAll(run, x, o);
  }

  /** Three scoops and four lickers, who else are seldom drawn together; how many calls it took. */
  private static int fullCone(int run, BeforeItDrips x, Oracle o) throws ReflectiveOperationException {
    compare(run, x, o, "sides", within(3, 8));
    compare(run, x, o, "ask", 0L, within(0, 8));
    compare(run, x, o, "ask", 1L, within(0, 8));
    for (int i = 0; i < 3; i++) {
      compare(run, x, o, "scoop", within(0, 9), within(20, 99));
      compare(run, x, o, "sun", within(0, 7));
      compare(run, x, o, "act", within(0, 6));
    }
    for (int i = 0; i < 4; i++) {
      compare(run, x, o, "licker", within(0, 5), within(0, 9));
    }
    return 16;
  }

  private static String[] drawnCall() {
    while (true) {
      String[] call = CALLS[random.nextInt(CALLS.length)].split(" ");
      if (random.nextInt(8) < Integer.parseInt(call[0])) {
        return call;
      }
    }
  }

  private static void compareAll(int run, BeforeItDrips x, Oracle o) throws ReflectiveOperationException {
    for (int what = -1; what <= 22; what++) {
      compare(run, x, o, "status", (long) what);
    }
  }

  private static void compare(int run, BeforeItDrips x, Oracle o, String name, Object... drawn)
      throws ReflectiveOperationException {
    Method m = mine.get(name);
    Object[] arguments = new Object[drawn.length];
    StringBuilder told = new StringBuilder("run " + run + ": " + name + "(");
    for (int i = 0; i < drawn.length; i++) {
      long v = (Long) drawn[i];
      arguments[i] = m.getParameterTypes()[i] == int.class ? (Object) (int) v : (Object) v;
      told.append(i == 0 ? "" : ", ").append(v);
    }
    long got;
    try {
      got = ((Number) m.invoke(x, arguments)).longValue();
    } catch (InvocationTargetException e) {
      throw new IllegalStateException(told + ") threw", e.getCause());
    }
    due.is(told + ")", got, ((Number) theirs.get(name).invoke(o, arguments)).longValue());
  }

  private static long within(int least, int most) {
    return least + random.nextInt(most - least + 1);
  }

  private static Object argument(String what) {
    if (random.nextInt(60) == 0) {
      int[] far = {Integer.MIN_VALUE, Integer.MAX_VALUE, -2, -3, 41, 201, 256, 1000};
      return (long) far[random.nextInt(far.length)];
    }
    switch (what) {
      case "s": return random.nextInt(12) == 0 ? within(-1, 8) : within(0, 3);
      case "rowsort": return within(0, 4);
      case "len": return random.nextInt(3) == 0 ? within(-1, 41) : within(0, 6);
      case "i": return random.nextInt(4) == 0 ? within(-1, 41) : within(0, 6);
      case "told": return random.nextInt(8) == 0 ? random.nextLong() : within(0, 7);
      case "l": return within(0, 3) - (random.nextInt(12) == 0 ? 2 : 0);
      case "kind": return within(0, random.nextInt(12) == 0 ? 6 : 5);
      case "a": return within(0, random.nextInt(12) == 0 ? 10 : 9);
      case "n": return within(2, 9);
      case "sort": return within(0, random.nextInt(12) == 0 ? 10 : 9);
      case "amount": return within(random.nextInt(3) == 0 ? 0 : 30, random.nextInt(12) == 0 ? 101 : 99);
      case "bits": return within(0, 1 << within(3, 8));
      case "what": return within(0, random.nextInt(12) == 0 ? 5 : 4);
      case "v": return random.nextInt(6) == 0 ? within(-1, 1000) : within(0, 21);
      case "byte": return within(32, 126);
      case "sc": return within(-1, 3);
      case "side": return within(-1, 8);
      case "four": return within(0, random.nextInt(12) == 0 ? 4 : 3);
      case "span": return random.nextInt(3) == 0 ? within(0, 200) : within(0, 12);
      case "k": return within(-1, 4);
      case "act": return within(0, 7);
      case "truth": return random.nextInt(3) == 0 ? within(0, 61) : within(1, 5);
      default: return (long) random.nextInt();
    }
  }

  private static String kerbText() {
    StringBuilder text = new StringBuilder();
    int statements = 1 + random.nextInt(6);
    for (int i = 0; i < statements; i++) {
      text.append(i == 0 ? "" : blanks() + ";" + blanks());
      String word = WORDS[random.nextInt(random.nextInt(12) == 0 ? WORDS.length : 7)];
      text.append(word);
      int most = word.equals("scoop") || word.equals("brim") || word.equals("hold") ? 21 : 8;
      int numbers = word.equals("scoop") || word.equals("licker") ? 2 : word.equals("sun") ? 1 + random.nextInt(3) : 1;
      numbers += random.nextInt(20) == 0 ? random.nextInt(3) - 1 : 0;
      for (int k = 0; k < numbers; k++) {
        int value = random.nextInt(random.nextInt(4) == 0 ? most * 2 : most);
        text.append(blanks()).append(k == 0 ? "" : " ").append(random.nextInt(12) == 0 ? "0" : "").append(value);
      }
    }
    text.append(blanks());
    if (random.nextInt(5) == 0) {
      text.setCharAt(random.nextInt(text.length()), " ;a0-Z~\u00e9".charAt(random.nextInt(8)));
    }
    return text.length() > 60 ? text.substring(0, 60) : text.toString();
  }

  private static String blanks() {
    return " ".repeat(random.nextInt(3));
  }
}
