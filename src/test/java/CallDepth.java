import java.util.ArrayDeque;
import java.util.Deque;
import java.util.HashMap;
import java.util.HashSet;
import java.util.Map;
import java.util.Set;
import java.util.regex.Matcher;
import java.util.regex.Pattern;

/** What is called, and how deep: read from a source without comments and indented as the class is. */
final class CallDepth {
  private static final Pattern CLASS = Pattern.compile("^(?: {4})?[a-z ]*\\bclass (\\w+) \\{$");
  private static final Pattern METHOD =
      Pattern.compile("^( {4}| {8})(?!.*\\b(?:class|if|for|while|switch|else|return|new)\\b)(?:[\\w\\[\\]]+ )*(\\w+)\\(.*\\) \\{$");
  private static final Pattern CALL = Pattern.compile("(\\.|\\bnew )?\\b(\\w+)\\(");
  private static final Set<String> NO_CALLS = Set.of("if", "for", "while", "switch", "return");

  /** Bodies by "Class.method". */
  private final Map<String, String> bodies = new HashMap<>();
  private final Set<String> classes = new HashSet<>();
  private final Map<String, Integer> depths = new HashMap<>();
  private final Deque<String> open = new ArrayDeque<>();

  CallDepth(String source) {
    String[] lines = source.split("\n");
    String within = "";
    for (int i = 0; i < lines.length; i++) {
      Matcher opensClass = CLASS.matcher(lines[i]);
      Matcher opensMethod = METHOD.matcher(lines[i]);
      if (opensClass.matches()) {
        within = opensClass.group(1);
        classes.add(within);
      } else if (opensMethod.matches()) {
        StringBuilder body = new StringBuilder();
        for (i++; !lines[i].equals(opensMethod.group(1) + "}"); i++) {
          body.append(lines[i]).append('\n');
        }
        bodies.put(within + "." + opensMethod.group(2), body.toString());
      }
    }
  }

  boolean finds(String method) {
    return bodies.containsKey(method);
  }

  /** The names that are called and stand in no class of the source. */
  Set<String> library() {
    Set<String> names = new HashSet<>();
    for (String body : bodies.values()) {
      Matcher calls = CALL.matcher(body);
      while (calls.find()) {
        names.add(calls.group(2));
      }
    }
    names.removeAll(NO_CALLS);
    for (String method : bodies.keySet()) {
      names.remove(method.substring(method.indexOf('.') + 1));
    }
    names.removeAll(classes);
    return names;
  }

  /** The method's own call is 1; what it calls of the library counts as much as what is its own. */
  int of(String method) {
    if (depths.containsKey(method)) {
      return depths.get(method);
    }
    if (open.contains(method)) {
      throw new IllegalStateException("methods that call one another: " + open);
    }
    open.push(method);
    int below = 0;
    Matcher calls = CALL.matcher(bodies.get(method));
    while (calls.find()) {
      if (!NO_CALLS.contains(calls.group(2))) {
        below = Math.max(below, ofCall(method, calls.group(1), calls.group(2)));
      }
    }
    open.pop();
    depths.put(method, below + 1);
    return below + 1;
  }

  private int ofCall(String from, String ahead, String name) {
    String own = from.substring(0, from.indexOf('.') + 1) + name;
    boolean isOnAnother = ".".equals(ahead);
    if (!isOnAnother && bodies.containsKey(own)) {
      return own.equals(from) ? 0 : of(own);
    }
    int deepest = 1;
    for (String inside : classes) {
      String target = inside + "." + name;
      if (bodies.containsKey(target) && !target.equals(from)) {
        deepest = Math.max(deepest, of(target));
      }
    }
    return deepest;
  }

  int deepest() {
    int deepest = 0;
    for (String method : bodies.keySet()) {
      deepest = Math.max(deepest, of(method));
    }
    return deepest;
  }
}
