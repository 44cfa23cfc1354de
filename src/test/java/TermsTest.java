import java.math.BigInteger;
import java.util.Arrays;

/** The edges that Terms 1 to 4 name: how a second goes, what lickers do, what is first of several, what wraps. */
public final class TermsTest {
  private static final Due due = new Due("TermsTest");
  private static final int[] DRY = {0, 0, 0, 0, 0, 0};

  public static void main(String[] args) {
    pouredCones();
    placesGoRound();
    turnGoesRound();
    lickAtMost();
    melts();
    runs();
    soaks();
    noScoop();
    dryAfterAnew();
    round();
    slow();
    wettest();
    lowest();
    deepAndPlan();
    planOfSeveral();
    oneSideInTheSun();
    bestOfSeveral();
    ordersOfThree();
    ordersOfTwo();
    shadeOfSeveral();
    drops();
    draws();
    elements();
    due.end();
  }

  private static void pouredCones() {
    BeforeItDrips x = Poured.cone(new int[] {3, 0, 1, 0}, new int[] {0, 4, 1, 0}, new int[] {2, 2, 0, 0}, new int[] {0, 0, 0, 7});
    int[][] want = {{3, 0, 1, 0}, {0, 4, 1, 0}, {2, 2, 0, 0}, {0, 0, 0, 7}};
    for (int scoop = -1; scoop < 3; scoop++) {
      for (int side = 0; side < 4; side++) {
        due.is("as poured, " + scoop + " at " + side, x.wet(scoop, side), want[scoop + 1][side]);
      }
    }
    due.is("nothing is left but that", x.status(6), 20);
    due.is("nothing is lost", x.status(4), 0);
  }

  // ---- 1 and 2 ----

  private static void placesGoRound() {
    for (int n = 3; n <= 8; n++) {
      for (int turn = 0; turn < n; turn++) {
        for (int place = 0; place < n; place++) {
          BeforeItDrips x = new BeforeItDrips();
          x.sides(n);
          x.ask(4, turn);
          x.sun(1 << place);
          for (int side = 0; side < n; side++) {
            int want = (side - turn + n) % n == place ? 1 : 0;
            due.is("place " + place + " of " + n + ", TURN " + turn + ", SIDE " + side, x.sunny(side), want);
          }
        }
      }
    }
  }

  private static void turnGoesRound() {
    for (int n = 3; n <= 8; n++) {
      BeforeItDrips x = new BeforeItDrips();
      x.sides(n);
      for (int i = 1; i <= 2 * n; i++) {
        x.act(5);
        due.is("5: on, of " + n, x.status(8), i % n);
      }
      for (int i = 1; i <= 2 * n; i++) {
        x.act(6);
        due.is("6: back, of " + n, x.status(8), (2 * n - i) % n);
      }
      due.is("SECONDS of it", x.status(3), 4 * n);
    }
  }

  private static void lickAtMost() {
    for (int row = 0; row <= 3; row++) {
      for (int wet = 0; wet <= 20; wet++) {
        int[][] rows = {DRY, DRY, DRY, DRY};
        rows[row] = new int[] {0, 20, wet, 20, 0, 0};
        BeforeItDrips x = Poured.cone(rows);
        x.ask(4, 2);
        int lick = wet % 2 == 0 ? 7 : wet;
        x.ask(2, lick);
        due.is("nothing is lost by a lick", x.act(row == 0 ? 4 : row), 0);
        int eaten = Math.min(wet, lick);
        String told = "lick of " + lick + " where " + wet + " stands, row " + row;
        due.is(told + ": EATEN", x.status(5), eaten);
        due.is(told + ": what stays", x.wet(row - 1, 2), wet - eaten);
        due.is(told + ": the sides about it", x.wet(row - 1, 1) + x.wet(row - 1, 3), 40);
      }
    }
  }

  private static void melts() {
    for (int sort = 0; sort <= 9; sort++) {
      // Of six sides 0 and 2 are in the sun.
      int all = 2 * sort + 4 * (sort / 2);
      for (int amount : new int[] {0, 1, sort, sort + 1, all, all + 1, 99}) {
        if (amount > 99) {
          continue;
        }
        BeforeItDrips x = new BeforeItDrips();
        x.sun(0b101);
        x.ask(0, 20);
        x.scoop(sort, amount);
        x.act(0);
        int left = amount;
        for (int side = 0; side < 6; side++) {
          int melts = Math.min(left, side == 0 || side == 2 ? sort : sort / 2);
          left -= melts;
          due.is("sort " + sort + " of " + amount + " melts at " + side, x.wet(0, side), melts);
        }
        due.is("sort " + sort + " of " + amount + ": AMOUNT", x.scoopOf(0, 1), left);
      }
    }
  }

  private static void runs() {
    for (int over = -1; over <= 1; over++) {
      BeforeItDrips x = Poured.cone(DRY, new int[] {0, 0, 0, 0, 0, 9 + over});
      x.ask(0, 9);
      x.act(0);
      due.is("above HOLD by " + over, x.wet(0, 5), 9 + Math.min(over, 0));
      due.is("above HOLD by " + over + ": RIM", x.wet(-1, 5), Math.max(over, 0));
      BeforeItDrips y = Poured.cone(new int[] {0, 0, 0, 0, 0, 9 + over}, DRY);
      y.ask(1, 9);
      due.is("above BRIM by " + over, y.act(0), Math.max(over, 0));
      due.is("above BRIM by " + over + ": RIM", y.wet(-1, 5), 9 + Math.min(over, 0));
    }
    // From the highest to the ground within one second, at every side for itself.
    for (int n = 3; n <= 8; n++) {
      for (int side = 0; side < n; side++) {
        int[] wet = new int[n];
        wet[side] = 20;
        BeforeItDrips x = Poured.cone(new int[n], new int[n], new int[n], wet);
        x.ask(0, 4);
        x.ask(1, 3);
        due.is("20 runs down at " + side + " of " + n, x.act(0), 20 - 3 * 4 - 3);
        due.is("the highest", x.wet(2, side), 4);
        due.is("the middle one", x.wet(1, side), 4);
        due.is("the lowest", x.wet(0, side), 4);
        due.is("the rim", x.wet(-1, side), 3);
        due.is("all there is", x.status(6), 15);
      }
    }
    BeforeItDrips y = Poured.cone(DRY, new int[] {1, 0, 0, 0, 0, 0}, new int[] {1, 0, 0, 0, 0, 0}, new int[] {1, 0, 0, 0, 0, 0});
    y.ask(0, 0);
    y.ask(1, 0);
    due.is("HOLD 0 and BRIM 0 keep nothing", y.act(0), 3);
    due.is("SOAK isn't more by what doesn't stay", y.status(7), 0);
    due.is("one drop", y.drop(-1), 1);
  }

  private static void soaks() {
    BeforeItDrips x = Poured.cone(new int[] {1, 0, 4, 0, 0, 1}, DRY);
    int ahead = x.status(7);
    x.act(0);
    due.is("SOAK of three rims", x.status(7), ahead + 3);
    x.act(4);
    due.is("SOAK of two", x.status(7), ahead + 5);
    x.ask(1, 0);
    due.is("LOST", x.act(0), 5);
    due.is("SOAK of none", x.status(7), ahead + 5);
  }

  // ---- 3 ----

  private static void noScoop() {
    for (int kind = 0; kind <= 5; kind++) {
      for (int turn = 0; turn < 6; turn++) {
        BeforeItDrips x = new BeforeItDrips();
        x.licker(kind, kind);
        x.ask(4, turn);
        due.is("no SCOOP: kind " + kind + ", TURN " + turn, x.would(0), 0);
        due.is("no SCOOP: a run of kind " + kind + " turns nothing", x.run(0, 9, 3), turn);
        due.is("no SCOOP: a run of kind " + kind + " eats nothing", x.run(0, 200, 1), 0);
        due.is("no SCOOP: nothing is left", x.until(0), 0);
        due.is("no SCOOP: nothing is lost", x.spareBy(0), 200);
      }
    }
  }

  /** What stood wet on scoops that are gone is gone, too. */
  private static void dryAfterAnew() {
    int[] wet = {0, 0, 0, 9, 0, 0};
    BeforeItDrips x = Poured.cone(wet, wet, wet, wet);
    for (int kind = 0; kind <= 3; kind++) {
      x.licker(kind, 0);
    }
    due.is("LEFT ahead", x.anew(), 36);
    due.is("LEFT", x.status(6), 0);
    due.is("no wettest side", x.wettest(), 0);
    x.ask(4, 3);
    plans(x, 0);
    plans(x, 0, 0, 0);
    x.scoop(0, 5);
    plans(x, 0, 0);
    due.is("LEFT of a new scoop", x.status(6), 5);
    due.is("its WET", x.scoopOf(0, 2), 0);
    due.is("still no wettest side", x.wettest(), 0);
    x.ask(4, 3);
    for (int kind = 1; kind <= 3; kind++) {
      due.is("a dry cone from 3, kind " + kind, x.would(kind), 5);
    }
    int[] want = {1, 5, 6, 6};
    x.ask(4, 1);
    for (int kind = 0; kind <= 3; kind++) {
      due.is("a dry cone from 1, kind " + kind, x.would(kind), want[kind]);
    }
    x.ask(0, 0);
    x.ask(1, 0);
    due.is("nothing drips of what is gone", x.without(9), 0);
    x.scoop(0, 5);
    x.scoop(0, 5);
    due.is("nor of the others", x.scoopOf(1, 2) + x.scoopOf(2, 2), 0);
  }

  /** The act of a licker on a poured cone, from a TURN. */
  private static void would(int kind, int turn, int want, int[]... rows) {
    BeforeItDrips x = Poured.cone(rows);
    x.licker(kind, 0);
    x.ask(4, turn);
    StringBuilder told = new StringBuilder("kind " + kind + " from " + turn + " on");
    for (int[] row : rows) {
      told.append(' ').append(Arrays.toString(row));
    }
    due.is(told.toString(), x.would(0), want);
  }

  private static int[] at(int side, int wet) {
    int[] row = new int[6];
    row[side] = wet;
    return row;
  }

  private static void round() {
    would(1, 3, 4, at(3, 1), at(3, 9), at(3, 9), at(3, 9));
    would(1, 3, 1, at(2, 9), at(3, 1), at(3, 9), at(3, 9));
    would(1, 3, 2, at(2, 9), at(4, 9), at(3, 1), at(3, 9));
    would(1, 3, 3, at(2, 9), at(4, 9), at(2, 9), at(3, 1));
    would(1, 3, 5, at(2, 9), at(4, 9), at(2, 9), at(4, 9));
    would(1, 5, 5, DRY, DRY);
    would(1, 0, 5, at(1, 1), DRY);
    would(0, 3, 1, at(3, 9), DRY, at(3, 9));
  }

  private static void slow() {
    for (int a = 0; a <= 9; a++) {
      BeforeItDrips x = new BeforeItDrips();
      x.scoop(0, 1);
      x.licker(4, a);
      for (int second = 0; second <= 24; second++) {
        due.is("SLOW of " + a + " at " + second, x.would(0), second % (a + 2) == 0 ? 5 : 0);
        x.act(0);
      }
    }
  }

  private static void wettest() {
    int[] four = {0, 4, 0, 4, 0, 0};
    would(2, 1, 1, DRY, four);
    would(2, 3, 6, DRY, four);
    would(2, 0, 5, DRY, four);
    would(2, 4, 5, DRY, four);
    would(2, 5, 5, DRY, four);
    // WET and RIM together; of several the first.
    would(2, 3, 6, at(2, 3), at(5, 2), at(5, 1));
    would(2, 3, 5, at(2, 3), at(5, 2), at(5, 2));
    would(2, 3, 4, at(3, 1), at(3, 1), at(3, 1), at(3, 1));
    would(2, 3, 1, at(3, 1), at(3, 2), at(3, 2), at(3, 2));
    would(2, 3, 2, at(3, 1), at(3, 2), at(3, 3), at(3, 3));
    would(2, 3, 3, at(3, 1), at(3, 2), at(3, 3), at(3, 4));
    would(2, 3, 1, at(3, 1), at(3, 4), at(3, 3), at(3, 2));
    would(2, 3, 2, DRY, DRY, at(3, 1));
    would(2, 3, 3, DRY, DRY, DRY, at(3, 1));
    would(2, 0, 0, DRY, DRY);
    for (int kind = 2; kind <= 3; kind++) {
      for (int n = 3; n <= 8; n++) {
        for (int goal = 0; goal < n; goal++) {
          for (int turn = 0; turn < n; turn++) {
            int[] row = new int[n];
            row[goal] = 2;
            int on = (goal - turn + n) % n;
            int want = on == 0 ? 1 : 2 * on <= n ? 5 : 6;
            would(kind, turn, want, new int[n], row);
            if (goal == 0) {
              would(kind, turn, on == 0 ? 0 : want, new int[n], new int[n]);
            }
          }
        }
      }
    }
  }

  private static void lowest() {
    // One after the other: RIM, then SCOOPS 0, 1, 2, whatever stands on the others.
    would(3, 2, 4, at(2, 2), at(1, 9), at(1, 9), at(1, 9));
    would(3, 1, 5, at(2, 1), at(1, 9), at(1, 9), at(1, 9));
    int[] one = {0, 1, 1, 1, 1, 0};
    would(3, 2, 4, one, new int[] {9, 3, 4, 3, 3, 0}, at(1, 9), at(1, 9));
    would(3, 2, 4, one, one, new int[] {9, 3, 4, 3, 3, 0}, at(1, 9));
    would(3, 2, 4, one, one, one, new int[] {9, 3, 4, 3, 3, 0});
    would(3, 1, 4, one, one, one, one);
    would(3, 2, 6, one, one, one, one);
    would(3, 2, 1, DRY, at(2, 3), at(1, 9), at(2, 9));
    would(3, 2, 2, DRY, DRY, at(2, 1), at(2, 9));
    would(3, 2, 3, DRY, DRY, DRY, at(2, 1));
    would(3, 2, 6, DRY, DRY, at(1, 1), at(2, 9));
    would(3, 0, 0, DRY, DRY, DRY, DRY);
  }

  private static void plans(BeforeItDrips x, int... acts) {
    for (int i = 0; i < acts.length; i++) {
      due.is("PLAN of " + acts.length + ", act " + i, x.plan(acts.length, i), acts[i]);
    }
  }

  private static void deepAndPlan() {
    BeforeItDrips x = Poured.cone(DRY, new int[] {3, 9, 0, 0, 0, 0});
    plans(x, 1);
    plans(x, 5, 1);
    plans(x, 1, 5, 1);
    int[] first = {1, 5, 1};
    for (int a = 0; a <= 9; a++) {
      BeforeItDrips y = Poured.cone(DRY, new int[] {3, 9, 0, 0, 0, 0});
      y.licker(5, a);
      due.is("DEEP of " + a + " looks " + (a % 3 + 1) + " ahead", y.would(0), first[a % 3]);
    }
  }

  private static void planOfSeveral() {
    plans(Poured.cone(DRY, DRY), 0, 0, 0);
    plans(Poured.cone(DRY, at(0, 3)), 0, 0, 1);
    plans(Poured.cone(DRY, at(0, 3)), 0, 1);
    plans(Poured.cone(DRY, at(0, 7)), 0, 1, 1);
    plans(Poured.cone(DRY, new int[] {3, 2, 0, 0, 0, 2}), 1, 5, 1);
    plans(Poured.cone(DRY, new int[] {3, 2, 0, 0, 0, 3}), 1, 6, 1);
    plans(Poured.cone(DRY, at(5, 1)), 0, 6, 1);
    plans(Poured.cone(at(1, 1), DRY), 0, 5, 4);
    plans(Poured.cone(at(0, 6), at(0, 6), at(0, 6), at(0, 6)), 1);
    plans(Poured.cone(at(0, 6), at(0, 6), at(0, 6), at(0, 6)), 1, 2);
    plans(Poured.cone(at(0, 6), at(0, 6), at(0, 6), at(0, 6)), 1, 2, 3);
    plans(Poured.cone(at(0, 6), at(0, 5), at(0, 6), at(0, 6)), 2, 3, 4);
    // What is LOST comes ahead of what is EATEN: 20 stands on the scoop, but 2 are too much for the rim.
    BeforeItDrips x = Poured.cone(at(0, 6), at(0, 20));
    x.ask(1, 4);
    x.ask(2, 2);
    plans(x, 4);
    due.is("nothing is LOST by it", x.plan(1, -1), 0);
    x.ask(2, 1);
    due.is("1 is LOST all the same", x.plan(1, -1), 1);
    plans(x, 4, 1);
    // An act that can't be is in no row: nothing is wet but where no scoop is.
    BeforeItDrips none = new BeforeItDrips();
    plans(none, 0);
    plans(none, 0, 0, 0);
    due.is("nothing is LOST by nothing", none.plan(3, -1), 0);
  }

  // ---- 4 ----

  /** Side 0 alone is in the sun: one melts there in a second, as long as there is any. */
  private static BeforeItDrips oneSide(int amount, int hold, int brim) {
    BeforeItDrips x = new BeforeItDrips();
    x.sun(1);
    x.ask(0, hold);
    x.ask(1, brim);
    x.scoop(1, amount);
    return x;
  }

  private static void oneSideInTheSun() {
    for (int amount = 0; amount <= 99; amount += 33) {
      for (int room = 0; room <= 40; room += 5) {
        BeforeItDrips x = oneSide(amount, room / 2, room - room / 2);
        String told = amount + " and room for " + room;
        for (int n = 0; n <= 200; n += n < 101 ? 1 : 33) {
          due.is("WITHOUT of " + told + ", " + n, x.without(n), Math.max(0, Math.min(n, amount) - room));
        }
        due.is("SPARE of " + told, x.spare(), amount <= room ? 200 : room);
        due.is("melted of " + told, x.melted(), amount);
      }
    }
    for (int amount = 19; amount <= 22; amount++) {
      BeforeItDrips x = oneSide(amount, 3, 0);
      for (int n = 0; n <= 200; n++) {
        int least = Math.min(n, amount);
        due.is("holdFor " + n + " of " + amount, x.holdFor(n), least <= 20 ? least : -1);
      }
    }
    for (int give = 150; give <= 250; give++) {
      for (int hold = 0; hold <= 20; hold += 10) {
        BeforeItDrips x = oneSide(99, hold, 1);
        x.ask(3, give);
        due.is("gives " + give + " behind " + hold, x.gives(), give + hold <= 200 ? give + hold : -1);
      }
    }
    largestOfAll();
    takeTurns();
  }

  /** As many sides in the sun as told: what the greatest scoop comes to at each is what there is room for. */
  private static void largestOfAll() {
    for (int sunny = 1; sunny <= 3; sunny++) {
      for (int room = 0; room <= 40; room++) {
        BeforeItDrips x = new BeforeItDrips();
        x.sun((1 << sunny) - 1);
        x.ask(0, room / 2);
        x.ask(1, room - room / 2);
        due.is("largest, room for " + room + " at " + sunny, x.largest(1, 200), Math.min(99, sunny * room));
        due.is("largest for as long as there is room", x.largest(1, room), 99);
        due.is("largest of a sort that never melts", x.largest(0, 200), 99);
        due.is("largest for 0", x.largest(9, 0), 99);
      }
    }
    BeforeItDrips x = oneSide(99, 0, 0);
    due.is("none above one that is lost", x.largest(1, 1), 0);
    due.is("none, though it could stand alone", x.largest(1, 200), 0);
    x.ask(0, 20);
    due.is("what the upper one holds", x.largest(1, 200), 20);
  }

  /** ROUND licks what one second brings to the rim; a LICKER licks in vain, and one is lost. */
  private static void takeTurns() {
    BeforeItDrips x = oneSide(99, 0, 1);
    x.act(0);
    x.licker(1, 0);
    x.licker(0, 0);
    for (int n = 0; n <= 90; n++) {
      due.is("both, ROUND first, " + n, x.both(0, 1, n), n / 2);
      due.is("both, ROUND last, " + n, x.both(1, 0, n), (n + 1) / 2);
      due.is("both are ROUND, " + n, x.both(0, 0, n), 0);
      due.is("neither is, " + n, x.both(1, 1, n), n);
    }
    due.is("spareBy ROUND", x.spareBy(0), 200);
    due.is("spareBy LICKER", x.spareBy(1), 0);
  }

  private static void bestOfSeveral() {
    // Who loses least, then who eats most, then the first: by kinds 0 (eats nothing), 1 (eats one a second).
    int[][] kinds = {{0, 1, 1, 0}, {1, 1, 1, 1}, {0, 0, 0, 1}, {0, 0, 1, 1}, {0, 0, 0, 0}};
    int[] want = {1, 0, 3, 2, 0};
    for (int brim = 1; brim <= 20; brim += 19) {
      for (int i = 0; i < kinds.length; i++) {
        BeforeItDrips x = oneSide(99, 0, brim);
        x.act(0);
        for (int kind : kinds[i]) {
          x.licker(kind, 0);
        }
        due.is("best of row " + i + " with BRIM " + brim, x.best(9), want[i]);
        due.is("best of row " + i + " for 0", x.best(0), 0);
      }
    }
    // Least LOST comes ahead of most EATEN: 9 stands in the way of 1 on a rim that is full.
    BeforeItDrips y = Poured.cone(at(0, 5), at(0, 9));
    y.ask(1, 4);
    y.ask(2, 6);
    y.licker(0, 0);
    y.licker(1, 0);
    due.is("one eats more, the other loses less", y.best(1), 1);
    due.is("eaten by the one", y.run(0, 1, 1), 6);
    due.is("eaten by the other", y.run(1, 1, 1), 5);
    due.is("lost by the one", y.run(0, 1, 0), 1);
  }

  private static void ordersOfThree() {
    int[][] orders = {{0, 1, 2}, {0, 2, 1}, {1, 0, 2}, {1, 2, 0}, {2, 0, 1}, {2, 1, 0}};
    // HOLD 3: at side 0 none but the dry one may be the lowest, at side 1 none but the one with 7 the highest.
    int[][] from = {{0, 0, 0}, {4, 0, 0}, {4, 7, 0}};
    for (int[] order : orders) {
      int[][] rows = {{0, 0, 0}, null, null, null};
      for (int i = 0; i < 3; i++) {
        rows[order[i] + 1] = from[i];
      }
      BeforeItDrips x = Poured.cone(rows);
      x.ask(0, 3);
      x.ask(1, 0);
      String told = "order " + order[0] + order[1] + order[2];
      due.is(told + ": LOST by it", x.order(1, -1), 0);
      for (int i = 0; i < 3; i++) {
        due.is(told + ": from below, " + i, x.order(1, i), order[i]);
        due.is(told + ": for 0, the first of all", x.order(0, i), i);
      }
      due.is(told + ": no fourth", x.order(1, 3), -5);
    }
    // One dry scoop and two with 12: 24 come down, and three times 3 are held, whatever the order.
    BeforeItDrips x = Poured.cone(new int[3], new int[3], new int[] {12, 0, 0}, new int[] {12, 0, 0});
    x.ask(0, 3);
    x.ask(1, 0);
    due.is("each SCOOP once", x.order(1, -1), 15);
    due.is("each SCOOP once, as they are", x.order(1, 0) * 100 + x.order(1, 1) * 10 + x.order(1, 2), 12);
    BeforeItDrips y = Poured.cone(from[0], from[0], from[0], from[0]);
    due.is("of several the first", y.order(200, 0) * 100 + y.order(200, 1) * 10 + y.order(200, 2), 12);
  }

  private static void ordersOfTwo() {
    int[] dry = {0, 0, 0};
    int[] wet = {4, 0, 0};
    BeforeItDrips x = Poured.cone(dry, dry, wet);
    BeforeItDrips y = Poured.cone(dry, wet, dry);
    for (BeforeItDrips z : new BeforeItDrips[] {x, y}) {
      z.ask(0, 3);
      z.ask(1, 0);
      due.is("two: LOST by the better one", z.order(1, -1), 0);
      due.is("two: no third", z.order(1, 2), -5);
    }
    due.is("two as they are", x.order(1, 0) * 10 + x.order(1, 1), 1);
    due.is("two the other way", y.order(1, 0) * 10 + y.order(1, 1), 10);
  }

  private static void shadeOfSeveral() {
    // One more melts at the SIDE in front: it is lost where 5 stand.
    for (int lucky = 0; lucky < 6; lucky++) {
      int[] row = {5, 5, 5, 5, 5, 5};
      row[lucky] = 3;
      row[5] = 3;
      BeforeItDrips x = new BeforeItDrips();
      x.scoop(1, 99);
      x.ask(0, 20);
      Poured.pour(x, row);
      x.ask(0, 5);
      x.ask(1, 0);
      x.sun(1);
      x.ask(4, 2);
      due.is("shade of " + lucky + " and 5", x.shade(1), lucky);
      due.is("shade for 0", x.shade(0), 0);
      due.is("shade for long: all the same behind all", x.shade(200), lucky);
    }
    for (int n = 3; n <= 8; n++) {
      int[] row = new int[n];
      Arrays.fill(row, 5);
      row[n - 1] = 2;
      BeforeItDrips x = new BeforeItDrips();
      x.sides(n);
      x.scoop(1, 99);
      Poured.pour(x, row);
      x.ask(1, 0);
      x.sun(1);
      due.is("shade of the last of " + n, x.shade(2), n - 1);
    }
  }

  private static void drops() {
    BeforeItDrips x = oneSide(99, 0, 0);
    for (int i = 1; i <= 25; i++) {
      if (i == 3 || i == 4) {
        x.sun(0);
        x.act(0);
        due.is("no drop in a dry second", x.drop(-1), Math.min(2, i));
        x.sun(1);
      } else {
        x.act(0);
        int many = Math.min(20, i < 3 ? i : i - 2);
        due.is("drops behind " + i, x.drop(-1), many);
        due.is("the last of them behind " + i, x.drop(many - 1), Math.min(i, 22));
        due.is("not so many behind " + i, x.drop(many), -5);
      }
    }
    due.is("the first", x.drop(0), 1);
    due.is("the third, behind two dry seconds", x.drop(2), 5);
    x.anew();
    due.is("none", x.drop(-1), 0);
    x.scoop(1, 9);
    x.act(0);
    due.is("counted by SECONDS, which go on", x.drop(0), 26);
    wentAll();
  }

  private static void wentAll() {
    // Drops at 1, 2, 5, 6 .. 22: twenty of them.
    BeforeItDrips x = oneSide(99, 0, 0);
    for (int i = 1; i <= 22; i++) {
      x.sun(i == 3 || i == 4 ? 0 : 1);
      x.act(0);
    }
    for (int sort = 0; sort <= 3; sort++) {
      for (int speed = 0; speed <= 10; speed++) {
        x.row(0, sort, 20);
        for (int i = 0; i < 20; i++) {
          x.set(0, i, (speed == 10 ? -128L : -100L) + (i < 2 ? i : i + 2) * speed);
        }
        if (sort == 0 && speed == 10) {
          continue;
        }
        due.is("went " + speed + ", sort " + sort, x.went(0, 20), speed >= 1 && speed <= 9 ? 1 << speed : 0);
        due.is("went " + speed + ", two of them, sort " + sort, x.went(0, 2), speed >= 1 && speed <= 9 ? 1 << speed : 0);
      }
      x = Calls.made("ask 0 0", "ask 1 0", "sun 1", "scoop 1 99", "act 0", "act 0", "sun 0", "act 0", "act 0", "sun 1",
          "row 7 0 40", "done 7 18");
    }
    x.row(0, 2, 20);
    for (int i = 0; i < 20; i++) {
      x.set(0, i, (i < 2 ? i : i + 2) * 4L + (i == 19 ? 1 : 0));
    }
    due.is("the last doesn't fit", x.went(0, 20), 0);
    due.is("but the others do", x.went(0, 19), 16);
    x.row(1, 4, 2);
    x.set(1, 1, 1);
    due.is("booleans are 0 and 1: one yard", x.went(1, 2), 2);
    x.row(2, 3, 2);
    x.set(2, 0, Long.MAX_VALUE - 3);
    x.set(2, 1, Long.MIN_VALUE + 4);
    due.is("differences of places wrap", x.went(2, 2), 1 << 8);
  }

  /** What a day draws from a seed, told by numbers that don't wrap. */
  private static void draws() {
    long[] seeds = {1, 0, -1, Integer.MAX_VALUE, Integer.MIN_VALUE, 12345, -1103515245, 77, 1L << 30, -(1L << 30), 65535, -65536};
    for (long seed : seeds) {
      for (int n = 3; n <= 8; n++) {
        BeforeItDrips x = new BeforeItDrips();
        x.sides(n);
        x.licker(0, 0);
        x.seed((int) seed);
        BigInteger next = BigInteger.valueOf(seed).multiply(BigInteger.valueOf(1103515245)).add(BigInteger.valueOf(12345))
            .mod(BigInteger.ONE.shiftLeft(32));
        long draw = next.longValue() / 65536 % 256;
        due.is("a day of " + seed, x.day(0, 1), 0);
        due.is("SUN of " + n + " by " + seed, x.status(9), draw % (1 << n));
        due.is("SEED by " + seed, x.status(11), next.intValue());
      }
    }
    BeforeItDrips x = new BeforeItDrips();
    x.licker(0, 0);
    x.sun(63);
    x.day(0, 60);
    due.is("one draw a day", x.status(11), 1103527590);
    due.is("sixty SECONDS", x.status(3), 60);
    due.is("SUN of 198 for six", x.status(9), 6);
  }

  private static void elements() {
    long[] values = {0, 1, -1, 127, 128, -128, -129, 255, 256, 32767, 32768, -32768, -32769, 65536, Integer.MAX_VALUE,
        Integer.MAX_VALUE + 1L, Integer.MIN_VALUE, Integer.MIN_VALUE - 1L, 1L << 32, Long.MAX_VALUE, Long.MIN_VALUE};
    for (int n = 1; n <= 40; n += 39) {
      BeforeItDrips x = new BeforeItDrips();
      for (long v : values) {
        long[] kept = {(byte) v, (short) v, (int) v, v, v == 0 ? 0 : 1};
        for (int sort = 0; sort <= 4; sort++) {
          x.row(sort, sort, n);
          due.is("0 at first", x.element(sort, n - 1), 0);
          due.is("set", x.set(sort, n - 1, v), 1);
          due.is(v + " in a row of sort " + sort, x.element(sort, n - 1), kept[sort]);
        }
      }
    }
    for (int size = 0; size <= 40; size++) {
      BeforeItDrips x = new BeforeItDrips();
      due.is("a row of " + size, x.row(0, 3, size), 1);
      x.row(1, 3, size);
      for (int i = 0; i < size; i++) {
        x.set(0, i, i + 1);
      }
      due.is("none behind the last of " + size, x.set(0, size, 1), -2);
      due.is("all " + size + " come", x.copy(0, 1, 0, 0, size), size);
      for (int i = 0; i <= size; i++) {
        due.is("of " + size + ", " + i, x.element(1, i), i < size ? i + 1 : 0);
      }
      due.is("one more than there are", x.copy(0, 1, 0, 0, size + 1), -2);
      x.row(2, 3, 40);
      due.is("all " + size + " to the end of forty", x.copy(0, 2, 0, 40 - size, size), size);
      due.is("the last of forty", x.element(2, 39), size);
      due.is("one place too far", x.copy(0, 2, 0, 41 - size, size), -2);
      due.is("from the end of forty", x.copy(2, 1, 40 - size, 0, size), size);
    }
  }
}
