import java.io.IOException;
import java.lang.reflect.Constructor;
import java.lang.reflect.Field;
import java.lang.reflect.Method;
import java.lang.reflect.Modifier;
import java.nio.file.Files;
import java.nio.file.Path;
import java.util.HashSet;
import java.util.Set;
import java.util.regex.Matcher;
import java.util.regex.Pattern;

/** The face, and rules of LANGUAGE.md that a program can look at. Run from the project's root. */
public final class LanguageTest {
  private static final Due due = new Due("LanguageTest");
  private static final String FACE =
      "row(int,int,int) set(int,int,long) copy(int,int,int,int,int) element(int,int) holds(int) show(int,int) says(int,int)"
      + " sides(int) scoop(int,int) sun(int) ask(int,int) licker(int,int) feed(int) wipe() kerb() scoopOf(int,int)"
      + " wet(int,int) lickerOf(int,int) sunny(int) without(int) spare() run(int,int,int) would(int) plan(int,int)"
      + " best(int) until(int) spareBy(int) both(int,int,int) holdFor(int) largest(int,int) order(int,int) shade(int)"
      + " gives() wettest() largestScoop() melted() judge(int,int) behind(int,int,int) done(int,int) drop(int)"
      + " went(int,int) act(int) licks(int,int) swap(int,int) day(int,int) anew() seed(int) image() back() status(int)";

  private static final Set<String> LIBRARY = Set.of("arraycopy", "length", "charAt", "min", "max");

  public static void main(String[] args) throws IOException {
    face();
    classesInside();
    source(withoutComments(Files.readString(Path.of("src/main/java/BeforeItDrips.java"))));
    roomOfARun();
    due.end();
  }

  private static void face() {
    Set<String> found = new HashSet<>();
    Set<String> publicNames = new HashSet<>();
    for (Method m : BeforeItDrips.class.getDeclaredMethods()) {
      if (Modifier.isPublic(m.getModifiers())) {
        StringBuilder told = new StringBuilder(m.getName()).append('(');
        for (Class<?> type : m.getParameterTypes()) {
          told.append(told.charAt(told.length() - 1) == '(' ? "" : ",").append(type);
        }
        found.add(told.append(')').toString());
        publicNames.add(m.getName());
        Class<?> want = m.getName().equals("element") ? long.class : int.class;
        due.holds("what " + m.getName() + " answers", m.getReturnType() == want);
      } else {
        due.holds("rule 1: " + m.getName() + " is private", Modifier.isPrivate(m.getModifiers()) || m.isSynthetic());
      }
    }
    due.holds("the face: " + found, found.equals(Set.of(FACE.split(" "))));
    for (Class<?> inside : BeforeItDrips.class.getDeclaredClasses()) {
      for (Method m : inside.getDeclaredMethods()) {
        due.holds("rule 1: " + m.getName() + " is no public name", !publicNames.contains(m.getName()));
      }
    }
    for (Method m : BeforeItDrips.class.getDeclaredMethods()) {
      due.holds("rule 1: one method of the name " + m.getName(),
          Modifier.isPublic(m.getModifiers()) || !publicNames.contains(m.getName()));
    }
    for (Field f : BeforeItDrips.class.getDeclaredFields()) {
      due.holds("rule 1: " + f.getName(), f.getName().equals("NONE") || Modifier.isPrivate(f.getModifiers()));
    }
    Constructor<?>[] made = BeforeItDrips.class.getDeclaredConstructors();
    due.is("one constructor", made.length, 1);
    due.holds("public, of nothing", Modifier.isPublic(made[0].getModifiers()) && made[0].getParameterCount() == 0);
    due.holds("final", Modifier.isFinal(BeforeItDrips.class.getModifiers()));
  }

  private static void classesInside() {
    Class<?>[] inside = BeforeItDrips.class.getDeclaredClasses();
    due.holds("rule 11: some twelve classes", inside.length < 12);
    fieldsOf(BeforeItDrips.class);
    for (Class<?> c : inside) {
      due.holds("rule 2: " + c.getName() + " is static", Modifier.isStatic(c.getModifiers()));
      due.holds("rule 2: " + c.getName() + " isn't public", !Modifier.isPublic(c.getModifiers()));
      fieldsOf(c);
    }
  }

  private static void fieldsOf(Class<?> c) {
    int fields = 0;
    for (Field f : c.getDeclaredFields()) {
      boolean ofTheClass = Modifier.isStatic(f.getModifiers());
      due.holds("rule 5: " + f.getName(), !ofTheClass || Modifier.isFinal(f.getModifiers()));
      fields += ofTheClass ? 0 : 1;
    }
    due.holds("rule 11: some twenty fields in " + c.getName(), fields <= 20);
    for (Method m : c.getDeclaredMethods()) {
      due.holds("rule 11: parameters of " + m.getName(), m.getParameterCount() <= 7);
    }
  }

  private static String withoutComments(String text) {
    return text.replaceAll("(?s)/\\*.*?\\*/", "").replaceAll("//[^\n]*", "");
  }

  private static void source(String text) {
    String[] never = {"\\bthrow\\b", "\\btry\\b", "\\bcatch\\b", "\\bsynchronized\\b", "\\bassert\\b", "\\bimport\\b",
        "\\bpackage\\b", "->", "::", "\\bThread\\b", "\\bRandom\\b", "\\bObject\\b", "Exact\\b", "\\bstatic\\s*\\{",
        "currentTime", "nanoTime", "\"\\s*\\+", "\\+\\s*\"", "MAX_VALUE", "MIN_VALUE", "@"};
    for (String word : never) {
      due.holds("a word that may not be: " + word, !Pattern.compile(word).matcher(text).find());
    }
    due.holds("ASCII alone", text.chars().allMatch(c -> c == '\n' || c >= 32 && c < 127));
    String[] lines = text.split("\n");
    Matcher opens = Pattern.compile("^( {4}| {8})(?!.*\\b(class|if|for|while|switch|else|return)\\b)\\S.*\\) \\{$").matcher("");
    for (int i = 0; i < lines.length; i++) {
      if (opens.reset(lines[i]).matches()) {
        int end = i;
        while (!lines[end].equals(opens.group(1) + "}")) {
          end++;
        }
        due.holds("rule 11: the length of " + lines[i].trim(), end - i < 60);
      }
    }
    depth(new CallDepth(text));
  }

  private static void depth(CallDepth calls) {
    for (Class<?> inside : BeforeItDrips.class.getDeclaredClasses()) {
      foundBy(calls, inside);
    }
    foundBy(calls, BeforeItDrips.class);
    due.holds("rule 11: calls go at most eight deep, not " + calls.deepest(), calls.deepest() <= 8);
    due.holds("rule 4: the library: " + calls.library(), LIBRARY.containsAll(calls.library()));
    due.is("a plan passes seconds", calls.of("Mind.findPlan") - calls.of("Mind.deepen"), 1);
    due.is("a second melts", calls.of("Cone.pass") - calls.of("Cone.melt"), 1);
  }

  private static void foundBy(CallDepth calls, Class<?> type) {
    for (Method m : type.getDeclaredMethods()) {
      due.holds("CallDepth finds " + m.getName(), m.isSynthetic() || calls.finds(type.getSimpleName() + "." + m.getName()));
    }
  }

  /** Rule 12 and the one room: calls make no objects, and a new object is small. */
  private static void roomOfARun() {
    com.sun.management.ThreadMXBean bean =
        (com.sun.management.ThreadMXBean) java.lang.management.ManagementFactory.getThreadMXBean();
    long thread = Thread.currentThread().getId();
    dearCalls(new BeforeItDrips());
    BeforeItDrips x = new BeforeItDrips();
    long ahead = bean.getThreadAllocatedBytes(thread);
    dearCalls(x);
    long made = bean.getThreadAllocatedBytes(thread) - ahead;
    due.holds("dear calls make next to nothing: " + made, made < 2000);
    ahead = bean.getThreadAllocatedBytes(thread);
    new BeforeItDrips();
    made = bean.getThreadAllocatedBytes(thread) - ahead;
    due.holds("a new object is small: " + made, made < 20000);
  }

  private static int dearCalls(BeforeItDrips x) {
    int all = x.scoop(9, 99) + x.scoop(7, 50) + x.licker(5, 2) + x.sun(3) + x.act(0);
    for (int i = 0; i < 20; i++) {
      all += x.plan(3, 0) + x.best(20) + x.order(50, 0) + x.largest(5, 50) + x.holdFor(50) + x.licks(0, 5);
      all += x.row(0, 0, 40) + x.done(0, 40) + x.feed(59) + x.kerb() + x.image() + x.back() + x.status(6);
    }
    return all;
  }
}
