/** Promises 21 to 39. */
public final class ThoughtTest {
  private static final Due due = new Due("ThoughtTest");

  public static void main(String[] args) {
    without();
    spare();
    run();
    would();
    plan();
    best();
    until();
    spareBy();
    both();
    holdFor();
    largest();
    order();
    shade();
    gives();
    wettest();
    largestScoop();
    melted();
    judge();
    behind();
    nothingIsChanged();
    due.end();
  }

  /** Three sides out of the sun, one scoop of sort 2: one melts at each side in a second. */
  private static BeforeItDrips slowCone(int amount) {
    BeforeItDrips x = new BeforeItDrips();
    x.sides(3);
    x.scoop(2, amount);
    return x;
  }

  /** Three sides with WET 5 and RIM 3 each, four more melting at each in a second; SECONDS 2. */
  private static BeforeItDrips wetCone() {
    BeforeItDrips x = new BeforeItDrips();
    x.sides(3);
    x.scoop(9, 99);
    x.act(0);
    x.act(0);
    return x;
  }

  /** Three sides; at 0 stand 3 and, on the upper scoop, 4; at 1 stand 5 and 1 on the rim; at 2 stand 3. SECONDS 1. */
  private static BeforeItDrips unevenCone() {
    BeforeItDrips x = new BeforeItDrips();
    x.sides(3);
    x.sun(2);
    x.scoop(6, 12);
    x.scoop(8, 4);
    x.act(0);
    x.sun(0);
    return x;
  }

  private static void without() {
    BeforeItDrips x = slowCone(99);
    due.is("21: none yet", x.without(9), 0);
    due.is("21: the tenth second", x.without(10), 3);
    due.is("21: 33 seconds", x.without(33), 72);
    due.is("21: 200 seconds", x.without(200), 72);
    due.is("21: 0 seconds", x.without(0), 0);
    due.is("21: 201 seconds", x.without(201), -2);
    due.is("21: -1 seconds", x.without(-1), -2);
    BeforeItDrips y = wetCone();
    y.act(0);
    due.is("21: more than now", y.without(1), 12);
  }

  private static void spare() {
    due.is("22: nine", slowCone(99).spare(), 9);
    due.is("22: no end", slowCone(27).spare(), 200);
    due.is("22: one too many", slowCone(28).spare(), 9);
    BeforeItDrips x = wetCone();
    due.is("22: none", x.spare(), 0);
    x.act(0);
    due.is("22: more than now", x.spare(), 0);
  }

  private static void run() {
    BeforeItDrips x = slowCone(30);
    x.licker(0, 0);
    due.is("23: LOST", x.run(0, 10, 0), 2);
    due.is("23: EATEN", x.run(0, 10, 1), 9);
    due.is("23: LEFT", x.run(0, 10, 2), 19);
    due.is("23: TURN", x.run(0, 10, 3), 0);
    due.is("23: 0 seconds", x.run(0, 0, 2), 30);
    due.is("23: 200 seconds", x.run(0, 200, 1), 10);
    due.is("23: no licker", x.run(1, 1, 0), -2);
    due.is("23: no licker below", x.run(-1, 1, 0), -2);
    due.is("23: too long", x.run(0, 201, 0), -2);
    due.is("23: too short", x.run(0, -1, 0), -2);
    due.is("23: no what", x.run(0, 1, 4), -2);
    due.is("23: no what below", x.run(0, 1, -1), -2);
    BeforeItDrips y = wetCone();
    y.licker(1, 0);
    y.licks(0, 1);
    due.is("23: by this run alone", y.run(0, 1, 1), 4);
    due.is("23: a ROUND licker stays where the rim is wet", y.run(0, 5, 3), 0);
  }

  private static void would() {
    BeforeItDrips x = unevenCone();
    for (int kind = 0; kind < 4; kind++) {
      x.licker(kind, 0);
    }
    int[][] want = {{1, 1, 2, 5}, {1, 4, 6, 4}, {1, 1, 5, 6}};
    for (int turn = 0; turn < 3; turn++) {
      x.ask(4, turn);
      for (int kind = 0; kind < 4; kind++) {
        due.is("24: kind " + kind + ", TURN " + turn, x.would(kind), want[turn][kind]);
      }
    }
    due.is("24: no licker", x.would(4), -2);
    due.is("24: no licker below", x.would(-1), -2);
    x.anew();
    for (int kind = 0; kind < 4; kind++) {
      due.is("24: no SCOOP, kind " + kind, x.would(kind), 0);
    }
    BeforeItDrips y = unevenCone();
    y.licker(4, 0);
    y.licker(4, 1);
    y.licker(5, 0);
    y.licker(4, 9);
    due.is("24: SLOW at 1 of 2", y.would(0), 0);
    y.act(0);
    due.is("24: SLOW at 0 of 2", y.would(0), 1);
    due.is("24: SLOW at 2 of 3", y.would(1), 0);
    y.act(0);
    due.is("24: SLOW at 0 of 3", y.would(1), 1);
    due.is("24: SLOW at 3 of 11", y.would(3), 0);
    BeforeItDrips z = slowCone(9);
    z.licker(1, 0);
    z.licker(2, 0);
    z.licker(3, 0);
    z.licker(5, 2);
    z.ask(4, 1);
    due.is("24: ROUND goes on where nothing is wet", z.would(0), 5);
    due.is("24: WETTEST goes to the first", z.would(1), 6);
    due.is("24: LOWEST goes to the first", z.would(2), 6);
    z.ask(4, 0);
    due.is("24: WETTEST does nothing where nothing is", z.would(1), 0);
    due.is("24: LOWEST does nothing where nothing is", z.would(2), 0);
    halfWayRound();
    deepLickers();
  }

  private static void halfWayRound() {
    int[] want = {5, 5, 1, 6, 6, 5};
    for (int turn = 0; turn < 6; turn++) {
      BeforeItDrips x = new BeforeItDrips();
      x.scoop(1, 1);
      x.sun(4);
      x.act(0);
      x.licker(2, 0);
      x.licker(3, 0);
      x.ask(4, turn);
      due.is("24: WETTEST to side 2 from " + turn, x.would(0), want[turn]);
      due.is("24: LOWEST to side 2 from " + turn, x.would(1), want[turn]);
    }
  }

  private static void deepLickers() {
    // Side 0 holds 3 and 4 on its rim, the others 3 and 3: one second licks the rim, two the scoop first, three wait.
    int[] first = {4, 1, 0};
    for (int a = 0; a <= 9; a++) {
      BeforeItDrips x = new BeforeItDrips();
      x.sides(3);
      x.sun(5);
      x.ask(0, 3);
      x.ask(2, 5);
      x.scoop(6, 20);
      for (int i = 0; i < 3; i++) {
        x.act(0);
      }
      x.licker(5, a);
      due.is("24: DEEP of " + a, x.would(0), first[a % 3]);
    }
  }

  private static void plan() {
    BeforeItDrips x = wetCone();
    due.is("25: LOST", x.plan(1, -1), 6);
    due.is("25: most EATEN of those", x.plan(1, 0), 1);
    BeforeItDrips y = new BeforeItDrips();
    y.sides(3);
    y.scoop(9, 99);
    due.is("25: the first of all", y.plan(1, 0), 0);
    due.is("25: two, LOST", y.plan(2, -1), 0);
    due.is("25: two, first act", y.plan(2, 0), 0);
    due.is("25: two, second act", y.plan(2, 1), 1);
    due.is("25: three, last act", y.plan(3, 2), 1);
    due.is("25: k 0", y.plan(0, -1), -2);
    due.is("25: k 4", y.plan(4, 0), -2);
    due.is("25: i -2", y.plan(2, -2), -2);
    due.is("25: i 2", y.plan(2, 2), -2);
    y.act(0);
    y.act(0);
    y.act(0);
    due.is("25: LOST by it alone", y.plan(1, -1), 8);
    // Nothing drips any more and more stands on side 1: to turn and lick 5 is more than 1 and 1.
    BeforeItDrips z = new BeforeItDrips();
    z.sides(3);
    z.scoop(9, 6);
    z.act(0);
    z.act(1);
    due.is("25: turns for more", z.plan(2, 0) * 10 + z.plan(2, 1), 51);
    BeforeItDrips none = new BeforeItDrips();
    due.is("25: no scoop", none.plan(3, 0) + none.plan(3, 1) + none.plan(3, 2) + none.plan(3, -1), 0);
  }

  private static void best() {
    BeforeItDrips x = wetCone();
    due.is("26: none", x.best(1), -5);
    due.is("26: bad ahead of none", x.best(201), -2);
    x.licker(4, 1);
    x.licker(0, 0);
    x.licker(0, 0);
    x.licker(1, 0);
    due.is("26: least LOST, then most EATEN, then the first", x.best(1), 1);
    due.is("26: the first of all", x.best(0), 0);
    due.is("26: -1 seconds", x.best(-1), -2);
    due.is("26: 201 seconds", x.best(201), -2);
    BeforeItDrips y = wetCone();
    y.licker(1, 0);
    y.licker(0, 0);
    due.is("26: as much LOST, more EATEN", y.best(1), 1);
  }

  private static void until() {
    BeforeItDrips x = new BeforeItDrips();
    x.sides(3);
    x.licker(0, 0);
    due.is("27: now", x.until(0), 0);
    x.scoop(9, 1);
    due.is("27: two", x.until(0), 2);
    due.is("27: no licker", x.until(1), -2);
    due.is("27: no licker below", x.until(-1), -2);
    x.ask(4, 1);
    due.is("27: never", x.until(0), -1);
    due.is("27: NONE isn't refused", x.status(12), 2);
    due.is("27: at 200", slowlyLicked(50).until(0), 200);
    due.is("27: at 204 it's none", slowlyLicked(51).until(0), -1);
    BeforeItDrips y = slowlyLicked(51);
    for (int i = 0; i < 3; i++) {
      y.act(0);
    }
    due.is("27: at 201 it's none", y.until(0), -1);
  }

  /** All melts at side 0, one in a second; a SLOW licker eats one of it at every fourth of SECONDS; SECONDS 1. */
  private static BeforeItDrips slowlyLicked(int amount) {
    BeforeItDrips x = new BeforeItDrips();
    x.sides(3);
    x.sun(1);
    x.ask(0, 20);
    x.ask(1, 20);
    x.ask(2, 1);
    x.scoop(1, amount);
    x.licker(4, 2);
    x.act(0);
    return x;
  }

  private static void spareBy() {
    BeforeItDrips x = slowCone(30);
    x.licker(0, 0);
    due.is("28: nine", x.spareBy(0), 9);
    due.is("28: no licker", x.spareBy(1), -2);
    due.is("28: no licker below", x.spareBy(-1), -2);
    BeforeItDrips y = slowCone(27);
    y.licker(0, 0);
    due.is("28: no end", y.spareBy(0), 200);
    BeforeItDrips z = wetCone();
    z.licker(1, 0);
    due.is("28: none", z.spareBy(0), 0);
    // Side 0 alone is melted to: ROUND eats what comes, and nothing would be lost but before now.
    BeforeItDrips w = new BeforeItDrips();
    w.sun(1);
    w.ask(0, 0);
    w.ask(1, 1);
    w.scoop(1, 99);
    w.licker(1, 0);
    for (int i = 0; i < 5; i++) {
      w.act(0);
    }
    due.is("28: lost ahead", w.status(4), 4);
    due.is("28: a lick a second is enough", w.spareBy(0), 200);
    due.is("28: by this licker, not by none", w.spare(), 0);
  }

  private static void both() {
    BeforeItDrips x = wetCone();
    x.licker(0, 0);
    x.licker(4, 1);
    due.is("29: the first one first", x.both(0, 1, 1), 6);
    due.is("29: the other one first", x.both(1, 0, 1), 9);
    due.is("29: then the other", x.both(0, 1, 2), 14);
    due.is("29: then the first", x.both(1, 0, 2), 17);
    due.is("29: one and the same", x.both(0, 0, 9), x.run(0, 9, 0));
    due.is("29: 0 seconds", x.both(0, 1, 0), 0);
    due.is("29: no licker", x.both(2, 0, 1), -2);
    due.is("29: no other", x.both(0, 2, 1), -2);
    due.is("29: neither below", x.both(-1, 0, 1) + x.both(0, -1, 1), -4);
    due.is("29: 201 seconds", x.both(0, 1, 201), -2);
    due.is("29: -1 seconds", x.both(0, 1, -1), -2);
    x.act(0);
    due.is("29: from now", x.both(1, 1, 0), 0);
  }

  private static void holdFor() {
    BeforeItDrips x = slowCone(99);
    due.is("30: 0 seconds", x.holdFor(0), 0);
    due.is("30: nine", x.holdFor(9), 5);
    due.is("30: ten", x.holdFor(10), 6);
    due.is("30: four", x.holdFor(4), 0);
    due.is("30: 24", x.holdFor(24), 20);
    due.is("30: 25", x.holdFor(25), -1);
    due.is("30: NONE isn't refused", x.status(12), 0);
    due.is("30: 201", x.holdFor(201), -2);
    due.is("30: -1", x.holdFor(-1), -2);
    due.is("30: HOLD stays", x.status(18), 5);
  }

  private static void largest() {
    BeforeItDrips x = new BeforeItDrips();
    x.sides(3);
    due.is("31: sort 2, ten seconds", x.largest(2, 10), 27);
    due.is("31: sort 2, nine seconds", x.largest(2, 9), 99);
    due.is("31: sort 0", x.largest(0, 200), 99);
    due.is("31: sort 9", x.largest(9, 200), 25);
    x.ask(0, 0);
    x.ask(1, 0);
    due.is("31: none", x.largest(2, 1), 0);
    due.is("31: sort 10", x.largest(10, 1), -2);
    due.is("31: sort -1", x.largest(-1, 1), -2);
    due.is("31: 201", x.largest(1, 201), -2);
    due.is("31: -1", x.largest(1, -1), -2);
    x.ask(0, 5);
    x.scoop(9, 99);
    // The lower one loses from its second second on; the upper one holds 5 at each side and loses no more till then.
    due.is("31: no more than without it", x.largest(2, 5), 99);
    due.is("31: what the upper one holds", x.largest(2, 200), 15);
    x.scoop(0, 0);
    x.scoop(0, 0);
    due.is("31: full", x.largest(1, 1), -6);
    due.is("31: bad ahead of full", x.largest(1, 201), -2);
    due.is("31: nothing is put", x.status(1), 3);
  }

  private static void order() {
    BeforeItDrips x = new BeforeItDrips();
    due.is("32: no scoop", x.order(5, -1), 0);
    due.is("32: no scoop, the first", x.order(5, 0), -5);
    x.sides(3);
    x.scoop(9, 45);
    due.is("32: one", x.order(200, 0), 0);
    due.is("32: one loses", x.order(200, -1), 18);
    due.is("32: one has no second", x.order(200, 1), -5);
    x.scoop(0, 9);
    due.is("32: two", x.order(200, 0) * 10 + x.order(200, 1), 10);
    // 16, 16 and 13 come down at the three sides, and 14 can stand at each.
    due.is("32: two lose", x.order(200, -1), 4);
    x.scoop(0, 9);
    due.is("32: three, from below", x.order(200, 0), 1);
    due.is("32: three, next", x.order(200, 1), 2);
    due.is("32: three, on top", x.order(200, 2), 0);
    due.is("32: three lose", x.order(200, -1), 0);
    due.is("32: the first of all", x.order(0, 0) * 100 + x.order(0, 1) * 10 + x.order(0, 2), 12);
    due.is("32: -2", x.order(1, -2), -2);
    due.is("32: 3", x.order(1, 3), -5);
    due.is("32: 201", x.order(201, 0), -2);
    due.is("32: -1", x.order(-1, 0), -2);
    due.is("32: the scoops stay", x.scoopOf(0, 0), 9);
    // WET goes with its scoop: what stands on the one that melts no more drips later from above.
    BeforeItDrips y = new BeforeItDrips();
    y.sides(3);
    y.ask(0, 20);
    y.ask(1, 0);
    y.scoop(9, 60);
    y.scoop(0, 9);
    for (int i = 0; i < 5; i++) {
      y.act(0);
    }
    y.ask(0, 10);
    due.is("32: as they are, WET too", y.order(1, 0) * 10 + y.order(1, 1), 10);
    due.is("32: WET of both takes all", y.order(1, -1), 0);
  }

  private static void shade() {
    BeforeItDrips x = new BeforeItDrips();
    due.is("33: no scoop", x.shade(9), 0);
    x.sides(3);
    x.sun(1);
    x.scoop(9, 99);
    x.act(0);
    due.is("33: out of the sun with the wet side", x.shade(1), 1);
    due.is("33: the first of all", x.shade(0), 0);
    due.is("33: 201", x.shade(201), -2);
    due.is("33: -1", x.shade(-1), -2);
    due.is("33: TURN stays", x.status(8), 0);
    x.ask(4, 2);
    due.is("33: of all TURNS, whatever it is", x.shade(0), 0);
  }

  private static void gives() {
    BeforeItDrips x = slowCone(99);
    x.ask(3, 1);
    due.is("34: the first wet rim", x.gives(), 6);
    x.ask(3, 3);
    due.is("34: three at once", x.gives(), 6);
    x.ask(3, 4);
    due.is("34: the next second", x.gives(), 7);
    x.ask(3, 585);
    due.is("34: at 200", x.gives(), 200);
    x.ask(3, 586);
    due.is("34: not within 200", x.gives(), -1);
    due.is("34: NONE isn't refused", x.status(12), 0);
    for (int i = 0; i < 6; i++) {
      x.act(0);
    }
    x.ask(3, 3);
    due.is("34: now", x.gives(), 0);
    x.ask(3, 4);
    due.is("34: from now", x.gives(), 1);
  }

  private static void wettest() {
    BeforeItDrips x = unevenCone();
    due.is("35: all together", x.wettest(), 0);
    x.act(1);
    due.is("35: licked away", x.wettest(), 1);
    x.ask(4, 2);
    due.is("35: whatever TURN is", x.wettest(), 1);
    BeforeItDrips y = slowCone(9);
    due.is("35: none", y.wettest(), 0);
    y.act(5);
    due.is("35: the first", y.wettest(), 0);
    y.act(0);
    y.ask(4, 0);
    y.act(1);
    due.is("35: not the first", y.wettest(), 1);
  }

  private static void largestScoop() {
    BeforeItDrips x = new BeforeItDrips();
    due.is("36: none", x.largestScoop(), -5);
    x.scoop(0, 5);
    due.is("36: one", x.largestScoop(), 0);
    x.scoop(0, 9);
    x.scoop(0, 9);
    due.is("36: the lowest of two", x.largestScoop(), 1);
    x.swap(0, 2);
    due.is("36: the lowest again", x.largestScoop(), 0);
  }

  private static void melted() {
    BeforeItDrips x = new BeforeItDrips();
    due.is("37: none", x.melted(), -1);
    x.sides(3);
    x.scoop(2, 30);
    due.is("37: ten", x.melted(), 10);
    x.scoop(2, 31);
    due.is("37: the first one of two", x.melted(), 10);
    x.scoop(2, 6);
    due.is("37: the first one, on top", x.melted(), 2);
    BeforeItDrips y = slowCone(0);
    due.is("37: now", y.melted(), 0);
    BeforeItDrips z = new BeforeItDrips();
    z.scoop(1, 1);
    due.is("37: never", z.melted(), -1);
    due.is("37: NONE isn't refused", z.status(15) + z.status(12), 0);
  }

  private static void told(BeforeItDrips x, int s, int sort, long... acts) {
    x.row(s, sort, acts.length);
    for (int i = 0; i < acts.length; i++) {
      x.set(s, i, acts[i]);
    }
  }

  private static void judge() {
    BeforeItDrips x = slowCone(30);
    x.scoop(0, 0);
    told(x, 0, 0, 0, 1, 2, 4, 5, 6, 3, 0);
    due.is("38: a scoop that isn't there", x.judge(0, 8), 6);
    due.is("38: ahead of it", x.judge(0, 6), -1);
    due.is("38: none", x.judge(0, 0), -1);
    told(x, 1, 3, 1L << 32, -1);
    due.is("38: far too much", x.judge(1, 1), 0);
    told(x, 1, 3, 0, -1);
    due.is("38: less than 0", x.judge(1, 2), 1);
    told(x, 1, 0, 5, 7);
    due.is("38: 7", x.judge(1, 2), 1);
    told(x, 2, 4, 5, 0);
    due.is("38: booleans are 1 and 0", x.judge(2, 2), -1);
    x.licker(0, 0);
    x.show(3, 0);
    due.is("38: no shelf", x.judge(8, 1), -2);
    due.is("38: no shelf below", x.judge(-1, 1), -2);
    due.is("38: n -1 of a licker", x.judge(3, -1), -2);
    due.is("38: n 41 of nothing", x.judge(4, 41), -2);
    due.is("38: a licker", x.judge(3, 1), -3);
    due.is("38: nothing", x.judge(4, 1), -4);
    due.is("38: fewer elements", x.judge(2, 3), -2);
    x.row(5, 0, 40);
    due.is("38: forty", x.judge(5, 40), -1);
  }

  private static void behind() {
    BeforeItDrips x = wetCone();
    told(x, 0, 2, 1, 5, 4, 2);
    due.is("39: LOST", x.behind(0, 1, 0), 6);
    due.is("39: EATEN", x.behind(0, 1, 1), 5);
    due.is("39: LEFT", x.behind(0, 1, 2), 88);
    due.is("39: TURN", x.behind(0, 3, 3), 1);
    due.is("39: none told", x.behind(0, 0, 2), 99);
    due.is("39: WRONG", x.behind(0, 4, 0), -5);
    due.is("39: what 4", x.behind(0, 4, 4), -2);
    due.is("39: what -1 of nothing", x.behind(7, 1, -1), -2);
    x.licker(0, 0);
    x.show(1, 0);
    due.is("39: no shelf", x.behind(8, 1, 0), -2);
    due.is("39: n 41 of a licker", x.behind(1, 41, 0), -2);
    due.is("39: n -1", x.behind(0, -1, 0), -2);
    due.is("39: a licker", x.behind(1, 1, 0), -3);
    due.is("39: nothing", x.behind(2, 1, 0), -4);
    due.is("39: fewer elements", x.behind(0, 5, 0), -2);
    x.act(0);
    due.is("39: by them alone", x.behind(0, 1, 0), 8);
  }

  private static void nothingIsChanged() {
    BeforeItDrips x = wetCone();
    x.licker(5, 2);
    x.licker(1, 0);
    x.scoop(7, 70);
    told(x, 0, 0, 1, 5, 4, 2);
    String ahead = allOf(x);
    x.without(50);
    x.spare();
    x.run(0, 20, 0);
    x.would(0);
    x.plan(3, 0);
    x.best(20);
    x.until(1);
    x.spareBy(1);
    x.both(0, 1, 20);
    x.holdFor(20);
    x.largest(5, 50);
    x.order(50, 1);
    x.shade(50);
    x.gives();
    x.melted();
    x.judge(0, 4);
    x.behind(0, 4, 0);
    due.holds("4.: in thought nothing is changed", ahead.equals(allOf(x)));
  }

  private static String allOf(BeforeItDrips x) {
    StringBuilder all = new StringBuilder();
    for (int what = 0; what <= 21; what++) {
      all.append(x.status(what)).append(' ');
    }
    for (int scoop = -1; scoop < x.status(1); scoop++) {
      for (int side = 0; side < x.status(0); side++) {
        all.append(x.wet(scoop, side)).append(' ');
      }
    }
    return all.append(x.drop(-1)).append(x.scoopOf(0, 1)).append(x.scoopOf(1, 1)).toString();
  }
}
