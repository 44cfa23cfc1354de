import java.util.ArrayList;
import java.util.List;
import java.util.regex.Matcher;
import java.util.regex.Pattern;

/**
 * A second program of the same document, for OracleTest: slow, wasteful and put another way wherever it can be,
 * so that a slip in the class isn't likely to stand here, too.
 */
public final class Oracle {
  private static final class Refused extends RuntimeException {
    private static final long serialVersionUID = 1;
    final int answer;

    Refused(int answer) {
      super(null, null, false, false);
      this.answer = answer;
    }
  }

  private static final class Ball {
    int sort;
    int amount;
    int[] wet = new int[8];

    Ball(int sort, int amount) {
      this.sort = sort;
      this.amount = amount;
    }

    Ball twin() {
      Ball b = new Ball(sort, amount);
      b.wet = wet.clone();
      return b;
    }
  }

  private static final class State {
    int n = 6;
    int turn;
    boolean[] sun = new boolean[8];
    int hold = 5;
    int brim = 4;
    int lick = 6;
    int give = 200;
    int seconds;
    int lost;
    int eaten;
    int soak;
    List<Ball> balls = new ArrayList<>();
    int[] rim = new int[8];

    State twin() {
      State t = new State();
      t.n = n;
      t.turn = turn;
      t.sun = sun.clone();
      t.hold = hold;
      t.brim = brim;
      t.lick = lick;
      t.give = give;
      t.seconds = seconds;
      t.lost = lost;
      t.eaten = eaten;
      t.soak = soak;
      for (Ball b : balls) {
        t.balls.add(b.twin());
      }
      t.rim = rim.clone();
      return t;
    }

    boolean can(long act) {
      return act == 0 || act >= 4 && act <= 6 || act >= 1 && act <= balls.size();
    }

    boolean inSun(int side) {
      return sun[Math.floorMod(side - turn, n)];
    }

    State second(int act) {
      State t = twin();
      if (act >= 1 && act <= 3) {
        int[] w = t.balls.get(act - 1).wet;
        int was = w[turn];
        w[turn] = Math.max(0, was - lick);
        t.eaten += was - w[turn];
      } else if (act == 4) {
        t.rim[turn] = Math.max(0, rim[turn] - lick);
        t.eaten += rim[turn] - t.rim[turn];
      } else if (act == 5) {
        t.turn = Math.floorMod(turn + 1, n);
      } else if (act == 6) {
        t.turn = Math.floorMod(turn - 1, n);
      }
      for (Ball b : t.balls) {
        for (int side = 0; side < n; side++) {
          int want = t.inSun(side) ? b.sort : b.sort / 2;
          while (want > 0 && b.amount > 0) {
            want--;
            b.amount--;
            b.wet[side]++;
          }
        }
      }
      for (int i = t.balls.size() - 1; i >= 0; i--) {
        int[] below = i == 0 ? t.rim : t.balls.get(i - 1).wet;
        for (int side = 0; side < n; side++) {
          while (t.balls.get(i).wet[side] > hold) {
            t.balls.get(i).wet[side]--;
            below[side]++;
          }
        }
      }
      for (int side = 0; side < n; side++) {
        while (t.rim[side] > brim) {
          t.rim[side]--;
          t.lost++;
        }
        t.soak += Math.min(1, t.rim[side]);
      }
      t.seconds++;
      return t;
    }

    State idle(int k) {
      State t = this;
      for (int i = 0; i < k; i++) {
        t = t.second(0);
      }
      return t;
    }

    int without(int k) {
      return idle(k).lost - lost;
    }

    int wetOf(int ball) {
      int all = 0;
      for (int w : balls.get(ball).wet) {
        all += w;
      }
      return all;
    }

    int left() {
      int all = 0;
      for (int i = 0; i < balls.size(); i++) {
        all += balls.get(i).amount + wetOf(i);
      }
      for (int r : rim) {
        all += r;
      }
      return all;
    }

    /** Rim, then scoops from below, at a side. */
    int[] column(int side) {
      int[] c = new int[balls.size() + 1];
      c[0] = rim[side];
      for (int i = 0; i < balls.size(); i++) {
        c[i + 1] = balls.get(i).wet[side];
      }
      return c;
    }
  }

  private static int sum(int[] c) {
    int all = 0;
    for (int v : c) {
      all += v;
    }
    return all;
  }

  private static int actOn(int row) {
    return row == 0 ? 4 : row;
  }

  private static class Licker {
    final int kind;
    final int a;

    Licker(int kind, int a) {
      this.kind = kind;
      this.a = a;
    }

    final int act(State s) {
      return s.balls.isEmpty() ? 0 : chosen(s);
    }

    int chosen(State s) {
      return 1;
    }
  }

  private static class Round extends Licker {
    Round(int kind, int a) {
      super(kind, a);
    }

    int chosen(State s) {
      int[] c = s.column(s.turn);
      for (int i = 0; i < c.length; i++) {
        if (c[i] != 0) {
          return actOn(i);
        }
      }
      return 5;
    }
  }

  private static final class Slow extends Round {
    Slow(int kind, int a) {
      super(kind, a);
    }

    int chosen(State s) {
      return Math.floorMod(s.seconds, a + 2) == 0 ? super.chosen(s) : 0;
    }
  }

  private static class Wettest extends Licker {
    Wettest(int kind, int a) {
      super(kind, a);
    }

    boolean wetter(int[] c, int[] d) {
      return sum(c) > sum(d);
    }

    int lickOf(int[] c) {
      int at = 0;
      for (int i = 1; i < c.length; i++) {
        if (c[i] > c[at]) {
          at = i;
        }
      }
      return c[at] == 0 ? 0 : actOn(at);
    }

    int chosen(State s) {
      int goal = 0;
      for (int side = 1; side < s.n; side++) {
        if (wetter(s.column(side), s.column(goal))) {
          goal = side;
        }
      }
      if (goal == s.turn) {
        return lickOf(s.column(goal));
      }
      int on = 0;
      while (Math.floorMod(s.turn + on, s.n) != goal) {
        on++;
      }
      int back = 0;
      while (Math.floorMod(s.turn - back, s.n) != goal) {
        back++;
      }
      return back < on ? 6 : 5;
    }
  }

  private static final class Lowest extends Wettest {
    Lowest(int kind, int a) {
      super(kind, a);
    }

    boolean wetter(int[] c, int[] d) {
      int i = 0;
      while (i < c.length && c[i] == d[i]) {
        i++;
      }
      return i < c.length && c[i] > d[i];
    }

    int lickOf(int[] c) {
      for (int i = 0; i < c.length; i++) {
        if (c[i] > 0) {
          return actOn(i);
        }
      }
      return 0;
    }
  }

  private static final class Deep extends Wettest {
    Deep(int kind, int a) {
      super(kind, a);
    }

    int chosen(State s) {
      return planOf(s, a % 3 + 1)[0];
    }
  }

  /** The acts of the plan, and behind them what is lost by it: every row is looked at, none left out. */
  private static int[] planOf(State s, int k) {
    int rows = 1;
    for (int i = 0; i < k; i++) {
      rows *= 7;
    }
    int[] best = null;
    int bestEaten = 0;
    for (int row = 0; row < rows; row++) {
      int[] acts = new int[k + 1];
      int rest = row;
      for (int i = k - 1; i >= 0; i--) {
        acts[i] = rest % 7;
        rest /= 7;
      }
      State t = s;
      for (int i = 0; i < k && t != null; i++) {
        t = t.can(acts[i]) ? t.second(acts[i]) : null;
      }
      if (t == null) {
        continue;
      }
      acts[k] = t.lost - s.lost;
      if (best == null || acts[k] < best[k] || acts[k] == best[k] && t.eaten > bestEaten) {
        best = acts;
        bestEaten = t.eaten;
      }
    }
    return best;
  }

  private static final class Held {
    int sort = -1;
    long[] elements;
    int licker = -1;
  }

  private static final class Kept {
    State cone;
    List<Licker> lickers;
    List<Integer> drops;
    int seed;
  }

  private State cone = new State();
  private List<Licker> lickers = new ArrayList<>();
  private List<Integer> drops = new ArrayList<>();
  private int seed = 1;
  private Kept kept;
  private final Held[] shelves = new Held[8];
  private StringBuilder tape = new StringBuilder();
  private final int[] refusals = new int[7];

  private interface Call {
    int answer();
  }

  private int refusable(Call call) {
    try {
      return call.answer();
    } catch (Refused r) {
      refusals[-r.answer]++;
      return r.answer;
    }
  }

  private static void bad(boolean it) {
    if (it) {
      throw new Refused(-2);
    }
  }

  private static void badUnless(int v, int least, int most) {
    bad(v < least || v > most);
  }

  private static void stuck(boolean it) {
    if (it) {
      throw new Refused(-5);
    }
  }

  private static void full(boolean it) {
    if (it) {
      throw new Refused(-6);
    }
  }

  private long[] rowIn(int s) {
    if (shelves[s] != null && shelves[s].sort < 0) {
      throw new Refused(-3);
    }
    if (shelves[s] == null) {
      throw new Refused(-4);
    }
    return shelves[s].elements;
  }

  private Licker lickerAt(int licker) {
    badUnless(licker, 0, lickers.size() - 1);
    return lickers.get(licker);
  }

  public int row(int s, int sort, int n) {
    return refusable(() -> {
      badUnless(s, 0, 7);
      badUnless(sort, 0, 4);
      badUnless(n, 0, 40);
      shelves[s] = new Held();
      shelves[s].sort = sort;
      shelves[s].elements = new long[n];
      return 1;
    });
  }

  public int set(int s, int i, long v) {
    return refusable(() -> {
      badUnless(s, 0, 7);
      long[] r = rowIn(s);
      badUnless(i, 0, r.length - 1);
      int[] bits = {8, 16, 32, 64};
      if (shelves[s].sort == 4) {
        r[i] = v == 0 ? 0 : 1;
      } else {
        int off = 64 - bits[shelves[s].sort];
        r[i] = v << off >> off;
      }
      return 1;
    });
  }

  public int copy(int p, int q, int i, int j, int n) {
    return refusable(() -> {
      badUnless(p, 0, 7);
      badUnless(q, 0, 7);
      Held h = shelves[p];
      Held g = shelves[q];
      if (h != null && h.sort < 0 || g != null && g.sort < 0 || h != null && g != null && h.sort != g.sort) {
        throw new Refused(-3);
      }
      long[] from = rowIn(p).clone();
      long[] to = rowIn(q);
      bad(i < 0 || j < 0 || n < 0 || (long) i + n > from.length || (long) j + n > to.length);
      for (int k = 0; k < n; k++) {
        to[j + k] = from[i + k];
      }
      return n;
    });
  }

  public long element(int s, int i) {
    if (s < 0 || s > 7 || shelves[s] == null || shelves[s].sort < 0 || i < 0 || i >= shelves[s].elements.length) {
      return 0;
    }
    return shelves[s].elements[i];
  }

  public int holds(int s) {
    if (s < 0 || s > 7 || shelves[s] == null) {
      return -1;
    }
    return shelves[s].sort >= 0 ? shelves[s].sort : 10 + shelves[s].licker;
  }

  public int show(int s, int licker) {
    return refusable(() -> {
      badUnless(s, 0, 7);
      badUnless(licker, -1, lickers.size() - 1);
      shelves[s] = null;
      if (licker >= 0) {
        shelves[s] = new Held();
        shelves[s].licker = licker;
      }
      return 1;
    });
  }

  public int says(int s, int kind) {
    return refusable(() -> {
      badUnless(s, 0, 7);
      badUnless(kind, 0, 5);
      if (shelves[s] == null) {
        throw new Refused(-4);
      }
      if (shelves[s].sort >= 0) {
        throw new Refused(-3);
      }
      Class<?>[] kinds = {Licker.class, Round.class, Wettest.class, Lowest.class, Slow.class, Deep.class};
      Licker l = lickers.get(shelves[s].licker);
      if (!kinds[kind].isInstance(l)) {
        throw new Refused(-3);
      }
      int[] saidAs = {l.a, l.act(cone), l.act(cone), l.act(cone), l.act(cone), l.act(cone)};
      return saidAs[kind];
    });
  }

  private void setSides(int n) {
    cone.n = n;
    cone.turn = 0;
    for (int place = n; place < 8; place++) {
      cone.sun[place] = false;
    }
  }

  public int sides(int n) {
    return refusable(() -> {
      badUnless(n, 3, 8);
      stuck(!cone.balls.isEmpty());
      int was = cone.n;
      setSides(n);
      return was;
    });
  }

  public int scoop(int sort, int amount) {
    return refusable(() -> {
      badUnless(sort, 0, 9);
      badUnless(amount, 0, 99);
      full(cone.balls.size() == 3);
      cone.balls.add(new Ball(sort, amount));
      return cone.balls.size() - 1;
    });
  }

  private int sunBits() {
    int bits = 0;
    for (int place = 0; place < 8; place++) {
      bits += cone.sun[place] ? 1 << place : 0;
    }
    return bits;
  }

  private void setSun(int bits) {
    for (int place = 0; place < 8; place++) {
      cone.sun[place] = place < cone.n && (bits & 1 << place) != 0;
    }
  }

  public int sun(int set) {
    return refusable(() -> {
      badUnless(set, 0, (1 << cone.n) - 1);
      int was = sunBits();
      setSun(set);
      return was;
    });
  }

  public int ask(int what, int v) {
    return refusable(() -> {
      badUnless(what, 0, 4);
      int[] least = {0, 0, 1, 1, 0};
      int[] most = {20, 20, 20, 999, cone.n - 1};
      badUnless(v, least[what], most[what]);
      int[] was = {cone.hold, cone.brim, cone.lick, cone.give, cone.turn};
      int[] now = was.clone();
      now[what] = v;
      cone.hold = now[0];
      cone.brim = now[1];
      cone.lick = now[2];
      cone.give = now[3];
      cone.turn = now[4];
      return was[what];
    });
  }

  private static Licker newLicker(int kind, int a) {
    switch (kind) {
      case 0: return new Licker(kind, a);
      case 1: return new Round(kind, a);
      case 2: return new Wettest(kind, a);
      case 3: return new Lowest(kind, a);
      case 4: return new Slow(kind, a);
      default: return new Deep(kind, a);
    }
  }

  public int licker(int kind, int a) {
    return refusable(() -> {
      badUnless(kind, 0, 5);
      badUnless(a, 0, 9);
      full(lickers.size() == 4);
      lickers.add(newLicker(kind, a));
      return lickers.size() - 1;
    });
  }

  public int feed(int letter) {
    return refusable(() -> {
      badUnless(letter, 0, 255);
      full(tape.length() == 250);
      tape.append((char) letter);
      return tape.length();
    });
  }

  public int wipe() {
    int was = tape.length();
    tape = new StringBuilder();
    return was;
  }

  /** The place of the fault, thrown as a Refused that tells it. */
  private static Refused fault(int place) {
    return new Refused(-20 - place);
  }

  public int kerb() {
    String text = tape.toString();
    tape = new StringBuilder();
    Kept ahead = keep();
    try {
      return readKerb(text);
    } catch (Refused r) {
      restore(ahead);
      refusals[2]++;
      return r.answer;
    }
  }

  private static final Pattern TOKEN = Pattern.compile("[a-z]+|[0-9]+|[^ ]", Pattern.DOTALL);

  private int readKerb(String text) {
    List<String> tokens = new ArrayList<>();
    List<Integer> places = new ArrayList<>();
    Matcher m = TOKEN.matcher(text);
    while (m.find()) {
      tokens.add(m.group());
      places.add(m.start());
    }
    tokens.add("");
    places.add(text.length());
    int statements = 0;
    int from = 0;
    while (true) {
      int to = from;
      while (!tokens.get(to).isEmpty() && !tokens.get(to).equals(";")) {
        to++;
      }
      statement(tokens.subList(from, to + 1), places.subList(from, to + 1));
      statements++;
      if (tokens.get(to).isEmpty()) {
        return statements;
      }
      from = to + 1;
    }
  }

  private static int number(List<String> tokens, List<Integer> places, int i, int least, int most) {
    String t = tokens.get(i);
    if (!t.matches("[0-9]{1,2}") || Integer.parseInt(t) < least || Integer.parseInt(t) > most) {
      throw fault(places.get(i));
    }
    return Integer.parseInt(t);
  }

  /** Tokens of one statement, the one that ends it too. */
  private void statement(List<String> tokens, List<Integer> places) {
    int last = tokens.size() - 1;
    String word = tokens.get(0);
    int wants;
    int[] most = {0, 0, 0};
    int least = 0;
    boolean room = true;
    switch (word) {
      case "sides": wants = 1; least = 3; most[1] = 8; room = cone.balls.isEmpty(); break;
      case "scoop": wants = 2; most[1] = 9; most[2] = 99; room = cone.balls.size() < 3; break;
      case "sun": readSun(tokens, places); return;
      case "hold": case "brim": wants = 1; most[1] = 20; break;
      case "licker": wants = 2; most[1] = 5; most[2] = 9; room = lickers.size() < 4; break;
      case "lick": wants = 1; most[1] = 6; break;
      default: throw fault(places.get(0));
    }
    if (!room) {
      throw fault(places.get(0));
    }
    int[] v = new int[3];
    for (int i = 1; i <= wants; i++) {
      v[i] = number(tokens, places, i, least, most[i]);
      if (word.equals("lick") && !cone.can(v[1])) {
        throw fault(places.get(1));
      }
    }
    if (wants + 1 < last) {
      throw fault(places.get(wants + 1));
    }
    switch (word) {
      case "sides": setSides(v[1]); break;
      case "scoop": cone.balls.add(new Ball(v[1], v[2])); break;
      case "hold": cone.hold = v[1]; break;
      case "brim": cone.brim = v[1]; break;
      case "licker": lickers.add(newLicker(v[1], v[2])); break;
      default: inTruth(v[1]); break;
    }
  }

  private void readSun(List<String> tokens, List<Integer> places) {
    int bits = 0;
    int last = tokens.size() - 1;
    if (last == 1) {
      throw fault(places.get(1));
    }
    for (int i = 1; i < last; i++) {
      int place = number(tokens, places, i, 0, cone.n - 1);
      if ((bits & 1 << place) != 0) {
        throw fault(places.get(i));
      }
      bits |= 1 << place;
    }
    setSun(bits);
  }

  public int scoopOf(int scoop, int what) {
    return refusable(() -> {
      badUnless(scoop, 0, cone.balls.size() - 1);
      badUnless(what, 0, 2);
      Ball b = cone.balls.get(scoop);
      return new int[] {b.sort, b.amount, cone.wetOf(scoop)}[what];
    });
  }

  public int wet(int scoop, int side) {
    return refusable(() -> {
      badUnless(scoop, -1, cone.balls.size() - 1);
      badUnless(side, 0, cone.n - 1);
      return cone.column(side)[scoop + 1];
    });
  }

  public int lickerOf(int licker, int what) {
    return refusable(() -> {
      Licker l = lickerAt(licker);
      badUnless(what, 0, 1);
      return what == 0 ? l.kind : l.a;
    });
  }

  public int sunny(int side) {
    return refusable(() -> {
      badUnless(side, 0, cone.n - 1);
      return cone.inSun(side) ? 1 : 0;
    });
  }

  public int without(int n) {
    return refusable(() -> {
      badUnless(n, 0, 200);
      return cone.without(n);
    });
  }

  public int spare() {
    int most = 0;
    State t = cone;
    for (int n = 1; n <= 200; n++) {
      t = t.second(0);
      if (t.lost == cone.lost) {
        most = n;
      }
    }
    return most;
  }

  private State runOf(Licker one, Licker two, int n) {
    State t = cone;
    for (int i = 0; i < n; i++) {
      t = t.second((i % 2 == 0 ? one : two).act(t));
    }
    return t;
  }

  public int run(int licker, int n, int what) {
    return refusable(() -> {
      Licker l = lickerAt(licker);
      badUnless(n, 0, 200);
      badUnless(what, 0, 3);
      return told(runOf(l, l, n), what);
    });
  }

  private int told(State t, int what) {
    return new int[] {t.lost - cone.lost, t.eaten - cone.eaten, t.left(), t.turn}[what];
  }

  public int would(int licker) {
    return refusable(() -> lickerAt(licker).act(cone));
  }

  public int plan(int k, int i) {
    return refusable(() -> {
      badUnless(k, 1, 3);
      badUnless(i, -1, k - 1);
      return planOf(cone, k)[i == -1 ? k : i];
    });
  }

  public int best(int n) {
    return refusable(() -> {
      badUnless(n, 0, 200);
      stuck(lickers.isEmpty());
      int best = 0;
      State by = runOf(lickers.get(0), lickers.get(0), n);
      for (int i = 1; i < lickers.size(); i++) {
        State t = runOf(lickers.get(i), lickers.get(i), n);
        if (t.lost < by.lost || t.lost == by.lost && t.eaten > by.eaten) {
          best = i;
          by = t;
        }
      }
      return best;
    });
  }

  public int until(int licker) {
    return refusable(() -> {
      Licker l = lickerAt(licker);
      State t = cone;
      int n = 0;
      while (t.left() > 0) {
        if (n == 200) {
          return -1;
        }
        t = t.second(l.act(t));
        n++;
      }
      return n;
    });
  }

  public int spareBy(int licker) {
    return refusable(() -> {
      Licker l = lickerAt(licker);
      State t = cone;
      int n = 0;
      while (n < 200 && t.second(l.act(t)).lost == cone.lost) {
        t = t.second(l.act(t));
        n++;
      }
      return n;
    });
  }

  public int both(int licker, int other, int n) {
    return refusable(() -> {
      Licker l = lickerAt(licker);
      Licker o = lickerAt(other);
      badUnless(n, 0, 200);
      return runOf(l, o, n).lost - cone.lost;
    });
  }

  public int holdFor(int n) {
    return refusable(() -> {
      badUnless(n, 0, 200);
      int least = -1;
      for (int hold = 20; hold >= 0; hold--) {
        State t = cone.twin();
        t.hold = hold;
        if (t.without(n) == 0) {
          least = hold;
        }
      }
      return least;
    });
  }

  public int largest(int sort, int n) {
    return refusable(() -> {
      badUnless(sort, 0, 9);
      badUnless(n, 0, 200);
      full(cone.balls.size() == 3);
      for (int amount = 99; amount > 0; amount--) {
        State t = cone.twin();
        t.balls.add(new Ball(sort, amount));
        if (t.without(n) <= cone.without(n)) {
          return amount;
        }
      }
      return 0;
    });
  }

  private static void orders(int m, List<Integer> begun, List<List<Integer>> all) {
    if (begun.size() == m) {
      all.add(new ArrayList<>(begun));
      return;
    }
    for (int i = 0; i < m; i++) {
      if (!begun.contains(i)) {
        begun.add(i);
        orders(m, begun, all);
        begun.remove(begun.size() - 1);
      }
    }
  }

  public int order(int n, int i) {
    return refusable(() -> {
      badUnless(n, 0, 200);
      bad(i < -1);
      stuck(i >= cone.balls.size());
      List<List<Integer>> all = new ArrayList<>();
      orders(cone.balls.size(), new ArrayList<>(), all);
      List<Integer> best = null;
      int least = 0;
      for (List<Integer> o : all) {
        State t = cone.twin();
        t.balls.clear();
        for (int b : o) {
          t.balls.add(cone.balls.get(b).twin());
        }
        if (best == null || t.without(n) < least) {
          best = o;
          least = t.without(n);
        }
      }
      return i == -1 ? least : best.get(i);
    });
  }

  public int shade(int n) {
    return refusable(() -> {
      badUnless(n, 0, 200);
      int best = 0;
      int[] lost = new int[cone.n];
      for (int turn = 0; turn < cone.n; turn++) {
        State t = cone.twin();
        t.turn = turn;
        lost[turn] = t.without(n);
        if (lost[turn] < lost[best]) {
          best = turn;
        }
      }
      return best;
    });
  }

  public int gives() {
    State t = cone;
    for (int n = 0; n <= 200; n++) {
      if (t.soak >= cone.give) {
        return n;
      }
      t = t.second(0);
    }
    return -1;
  }

  public int wettest() {
    int best = 0;
    for (int side = 1; side < cone.n; side++) {
      if (sum(cone.column(side)) > sum(cone.column(best))) {
        best = side;
      }
    }
    return best;
  }

  public int largestScoop() {
    return refusable(() -> {
      stuck(cone.balls.isEmpty());
      int best = 0;
      for (int i = cone.balls.size() - 1; i >= 0; i--) {
        if (cone.balls.get(i).amount >= cone.balls.get(best).amount) {
          best = i;
        }
      }
      return best;
    });
  }

  public int melted() {
    State t = cone;
    for (int n = 0; n <= 200; n++) {
      for (Ball b : t.balls) {
        if (b.amount == 0) {
          return n;
        }
      }
      t = t.second(0);
    }
    return -1;
  }

  private long[] toldRow(int s, int n, int least, int most) {
    badUnless(s, 0, 7);
    badUnless(n, least, most);
    long[] r = rowIn(s);
    bad(n > r.length);
    return r;
  }

  private int wrong(long[] r, int n) {
    for (int i = 0; i < n; i++) {
      if (!cone.can(r[i])) {
        return i;
      }
    }
    return -1;
  }

  public int judge(int s, int n) {
    return refusable(() -> wrong(toldRow(s, n, 0, 40), n));
  }

  public int behind(int s, int n, int what) {
    return refusable(() -> {
      badUnless(what, 0, 3);
      long[] r = toldRow(s, n, 0, 40);
      stuck(wrong(r, n) != -1);
      State t = cone;
      for (int i = 0; i < n; i++) {
        t = t.second((int) r[i]);
      }
      return told(t, what);
    });
  }

  private void inTruth(int act) {
    State t = cone.second(act);
    if (t.lost != cone.lost && drops.size() < 20) {
      drops.add(t.seconds);
    }
    cone = t;
  }

  public int done(int s, int n) {
    return refusable(() -> {
      long[] r = toldRow(s, n, 0, 40);
      stuck(wrong(r, n) != -1);
      int was = cone.lost;
      for (int i = 0; i < n; i++) {
        inTruth((int) r[i]);
      }
      return cone.lost - was;
    });
  }

  public int drop(int i) {
    return refusable(() -> {
      bad(i < -1);
      stuck(i >= drops.size());
      return i == -1 ? drops.size() : drops.get(i);
    });
  }

  public int went(int s, int n) {
    return refusable(() -> {
      long[] r = toldRow(s, n, 2, 20);
      stuck(n > drops.size());
      int bits = 0;
      for (int speed = 1; speed <= 9; speed++) {
        boolean fits = true;
        for (int i = 0; i + 1 < n; i++) {
          fits &= r[i] + (long) speed * (drops.get(i + 1) - drops.get(i)) == r[i + 1];
        }
        bits += fits ? 1 << speed : 0;
      }
      return bits;
    });
  }

  public int act(int act) {
    return refusable(() -> {
      badUnless(act, 0, 6);
      stuck(!cone.can(act));
      int was = cone.lost;
      inTruth(act);
      return cone.lost - was;
    });
  }

  public int licks(int licker, int n) {
    return refusable(() -> {
      Licker l = lickerAt(licker);
      badUnless(n, 1, 60);
      int was = cone.eaten;
      for (int i = 0; i < n; i++) {
        inTruth(l.act(cone));
      }
      return cone.eaten - was;
    });
  }

  public int swap(int scoop, int other) {
    return refusable(() -> {
      badUnless(scoop, 0, cone.balls.size() - 1);
      badUnless(other, 0, cone.balls.size() - 1);
      Ball b = cone.balls.get(scoop);
      cone.balls.set(scoop, cone.balls.get(other));
      cone.balls.set(other, b);
      return scoop == other ? 0 : 1;
    });
  }

  public int day(int licker, int k) {
    return refusable(() -> {
      Licker l = lickerAt(licker);
      badUnless(k, 1, 60);
      seed = (int) (seed * 1103515245L + 12345L);
      setSun((int) ((seed & 0xffffffffL) / 65536 % 256));
      int was = cone.lost;
      for (int i = 0; i < k; i++) {
        inTruth(l.act(cone));
      }
      return cone.lost - was;
    });
  }

  public int anew() {
    int was = cone.left();
    cone.balls.clear();
    cone.rim = new int[8];
    cone.soak = 0;
    drops.clear();
    return was;
  }

  public int seed(int v) {
    int was = seed;
    seed = v;
    return was;
  }

  private Kept keep() {
    Kept k = new Kept();
    k.cone = cone.twin();
    k.lickers = new ArrayList<>(lickers);
    k.drops = new ArrayList<>(drops);
    k.seed = seed;
    return k;
  }

  private void restore(Kept k) {
    cone = k.cone.twin();
    lickers = new ArrayList<>(k.lickers);
    drops = new ArrayList<>(k.drops);
    seed = k.seed;
  }

  public int image() {
    kept = keep();
    return 1;
  }

  public int back() {
    return refusable(() -> {
      stuck(kept == null);
      restore(kept);
      for (int s = 0; s < 8; s++) {
        if (shelves[s] != null && shelves[s].sort < 0 && shelves[s].licker >= lickers.size()) {
          shelves[s] = null;
        }
      }
      return 1;
    });
  }

  public int status(int what) {
    int held = 0;
    for (Held h : shelves) {
      held += h == null ? 0 : 1;
    }
    int[] all = {cone.n, cone.balls.size(), lickers.size(), cone.seconds, cone.lost, cone.eaten, cone.left(), cone.soak,
        cone.turn, sunBits(), tape.length(), seed, refusals[2], refusals[3], refusals[4], refusals[5], refusals[6], held,
        cone.hold, cone.brim, cone.lick, cone.give};
    return what < 0 || what >= all.length ? -1 : all[what];
  }
}
