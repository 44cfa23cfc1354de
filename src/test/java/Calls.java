import java.lang.reflect.InvocationTargetException;
import java.lang.reflect.Method;
import java.util.HashMap;
import java.util.Map;

/** Calls told as texts ("scoop 9 99"), and all that an object tells of itself. */
final class Calls {
  private static final Map<String, Method> methods = new HashMap<>();

  static {
    for (Method m : BeforeItDrips.class.getDeclaredMethods()) {
      methods.put(m.getName(), m);
    }
  }

  private Calls() {
  }

  static long answer(BeforeItDrips x, String call) {
    String[] words = call.split(" ");
    Method m = methods.get(words[0]);
    Object[] arguments = new Object[words.length - 1];
    for (int i = 0; i < arguments.length; i++) {
      long v = Long.parseLong(words[i + 1]);
      arguments[i] = m.getParameterTypes()[i] == int.class ? (Object) (int) v : (Object) v;
    }
    try {
      return ((Number) m.invoke(x, arguments)).longValue();
    } catch (InvocationTargetException e) {
      throw new IllegalStateException(call + " threw", e.getCause());
    } catch (IllegalAccessException e) {
      throw new IllegalStateException(call, e);
    }
  }

  static BeforeItDrips made(String... calls) {
    BeforeItDrips x = new BeforeItDrips();
    for (String call : calls) {
      answer(x, call);
    }
    return x;
  }

  /** All but REFUSALS: of rows no more than six elements, for an object has 512 calls. */
  static String all(BeforeItDrips x) {
    StringBuilder all = new StringBuilder();
    for (int what = 0; what <= 21; what++) {
      if (what < 12 || what > 16) {
        all.append(x.status(what)).append(' ');
      }
    }
    for (int scoop = -1; scoop < x.status(1); scoop++) {
      for (int side = 0; side < x.status(0); side++) {
        all.append(x.wet(scoop, side)).append(' ');
      }
      all.append(scoop < 0 ? "" : x.scoopOf(scoop, 0) + " " + x.scoopOf(scoop, 1) + "; ");
    }
    for (int licker = 0; licker < x.status(2); licker++) {
      all.append(x.lickerOf(licker, 0)).append(' ').append(x.lickerOf(licker, 1)).append("; ");
    }
    for (int i = 0; i < x.drop(-1); i++) {
      all.append(x.drop(i)).append(' ');
    }
    for (int s = 0; s < 8; s++) {
      all.append(x.holds(s)).append(": ");
      for (int i = 0; i < 6; i++) {
        all.append(x.element(s, i)).append(' ');
      }
    }
    return all.toString();
  }

  /** How many of -2, -3, -4, -5, -6 there were. */
  static int[] refusals(BeforeItDrips x) {
    return new int[] {x.status(12), x.status(13), x.status(14), x.status(15), x.status(16)};
  }
}
