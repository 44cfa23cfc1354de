/** Promises 1 to 8. */
public final class ShelvesTest {
  private static final Due due = new Due("ShelvesTest");

  public static void main(String[] args) {
    aNewObject();
    row();
    set();
    copy();
    element();
    holds();
    show();
    says();
    due.end();
  }

  private static void aNewObject() {
    BeforeItDrips x = new BeforeItDrips();
    int[] first = {6, 0, 0, 0, 0, 0, 0, 0, 0, 0, 0, 1, 0, 0, 0, 0, 0, 0, 5, 4, 6, 200};
    for (int what = 0; what < first.length; what++) {
      due.is("1: status(" + what + ") of a new object", x.status(what), first[what]);
    }
    for (int s = 0; s < 8; s++) {
      due.is("1: holds(" + s + ") of a new object", x.holds(s), -1);
    }
    for (int side = 0; side < 6; side++) {
      due.is("1: rim at " + side, x.wet(-1, side), 0);
      due.is("1: sunny " + side, x.sunny(side), 0);
    }
    due.is("1: NONE", BeforeItDrips.NONE, -1);
    BeforeItDrips y = new BeforeItDrips();
    y.scoop(3, 30);
    due.is("1: objects share nothing", x.status(1), 0);
  }

  private static void row() {
    BeforeItDrips x = new BeforeItDrips();
    due.is("2: row(0, 0, 0)", x.row(0, 0, 0), 1);
    due.is("2: row(7, 4, 40)", x.row(7, 4, 40), 1);
    due.is("2: held", x.holds(7), 4);
    due.is("2: row(8, 0, 1)", x.row(8, 0, 1), -2);
    due.is("2: row(-1, 0, 1)", x.row(-1, 0, 1), -2);
    due.is("2: row(0, 5, 1)", x.row(0, 5, 1), -2);
    due.is("2: row(0, -1, 1)", x.row(0, -1, 1), -2);
    due.is("2: row(0, 0, 41)", x.row(0, 0, 41), -2);
    due.is("2: row(0, 0, -1)", x.row(0, 0, -1), -2);
    due.is("2: refused six times", x.status(12), 6);
    x.row(1, 2, 3);
    x.set(1, 0, 9);
    x.set(1, 2, 9);
    due.is("2: a new row again", x.row(1, 3, 5), 1);
    due.is("2: is 0 at first", x.element(1, 2) + x.element(1, 0), 0);
    due.is("2: has the new size", x.set(1, 4, 1), 1);
    due.is("2: has the new sort", x.holds(1), 3);
    x.licker(0, 0);
    x.show(2, 0);
    due.is("2: in a licker's place", x.row(2, 1, 1), 1);
    due.is("2: in a licker's place holds", x.holds(2), 1);
  }

  private static void set() {
    BeforeItDrips x = new BeforeItDrips();
    long v = 0x1234_5678_9abc_def0L;
    long[] kept = {(byte) 0xf0, (short) 0xdef0, 0x9abcdef0, v, 1};
    for (int sort = 0; sort < 5; sort++) {
      x.row(sort, sort, 2);
      due.is("3: set of sort " + sort, x.set(sort, 1, v), 1);
      due.is("3: keeps its lowest bits, sort " + sort, x.element(sort, 1), kept[sort]);
      due.is("3: the other element stays, sort " + sort, x.element(sort, 0), 0);
    }
    x.set(4, 0, 256);
    due.is("3: a boolean of 256 is so", x.element(4, 0), 1);
    x.set(4, 0, 0);
    due.is("3: a boolean of 0 isn't", x.element(4, 0), 0);
    x.set(0, 0, 128);
    due.is("3: a byte of 128", x.element(0, 0), -128);
    x.licker(0, 0);
    x.show(5, 0);
    due.is("3: no shelf", x.set(8, 0, 0), -2);
    due.is("3: no shelf below", x.set(-1, 0, 0), -2);
    due.is("3: a licker", x.set(5, 99, 0), -3);
    due.is("3: nothing", x.set(6, 99, 0), -4);
    due.is("3: no element", x.set(0, 2, 0), -2);
    due.is("3: no element below", x.set(0, -1, 0), -2);
    due.is("3: refusals -2", x.status(12), 4);
    due.is("3: refusals -3", x.status(13), 1);
    due.is("3: refusals -4", x.status(14), 1);
  }

  private static void copy() {
    BeforeItDrips x = new BeforeItDrips();
    x.row(0, 2, 5);
    x.row(1, 2, 3);
    x.row(2, 3, 3);
    x.licker(0, 0);
    x.show(3, 0);
    for (int i = 0; i < 5; i++) {
      x.set(0, i, 10 + i);
    }
    due.is("4: copy", x.copy(0, 1, 2, 1, 2), 2);
    due.is("4: first stays", x.element(1, 0), 0);
    due.is("4: second comes", x.element(1, 1), 12);
    due.is("4: third comes", x.element(1, 2), 13);
    due.is("4: on itself forward", x.copy(0, 0, 0, 1, 4), 4);
    for (int i = 1; i < 5; i++) {
      due.is("4: as they were, " + i, x.element(0, i), 9 + i);
    }
    due.is("4: on itself back", x.copy(0, 0, 2, 0, 3), 3);
    due.is("4: as they were back", x.element(0, 1), 12);
    due.is("4: none", x.copy(0, 1, 5, 3, 0), 0);
    due.is("4: no shelf p", x.copy(8, 1, 0, 0, 1), -2);
    due.is("4: no shelf q ahead of a licker", x.copy(3, -1, 0, 0, 1), -2);
    due.is("4: two sorts", x.copy(0, 2, 0, 0, 99), -3);
    due.is("4: a licker", x.copy(3, 0, 0, 0, 1), -3);
    due.is("4: a licker ahead of nothing", x.copy(5, 3, 0, 0, 1), -3);
    due.is("4: nothing in p", x.copy(5, 0, 0, 0, 99), -4);
    due.is("4: nothing in q", x.copy(0, 5, 0, 0, 99), -4);
    int[][] bad = {{-1, 0, 1}, {0, -1, 1}, {0, 0, -1}, {4, 0, 2}, {0, 2, 2}, {6, 0, 0}, {0, 4, 0},
        {2147483647, 0, 1}, {1, 0, 2147483647}, {0, 2147483647, 2}, {-2147483648, 0, 1}};
    for (int[] b : bad) {
      due.is("4: copy(0, 1, " + b[0] + ", " + b[1] + ", " + b[2] + ")", x.copy(0, 1, b[0], b[1], b[2]), -2);
    }
  }

  private static void element() {
    BeforeItDrips x = new BeforeItDrips();
    x.row(0, 3, 2);
    x.set(0, 1, Long.MIN_VALUE);
    x.licker(0, 7);
    x.show(1, 0);
    due.is("5: element", x.element(0, 1), Long.MIN_VALUE);
    due.is("5: no element", x.element(0, 2), 0);
    due.is("5: no element below", x.element(0, -1), 0);
    x.row(3, 0, 40);
    x.set(3, 39, 4);
    due.is("5: the last of forty", x.element(3, 39), 4);
    due.is("5: none behind forty", x.element(3, 40), 0);
    x.row(3, 0, 39);
    due.is("5: none that was", x.element(3, 39), 0);
    due.is("5: a licker", x.element(1, 0), 0);
    due.is("5: nothing", x.element(2, 0), 0);
    due.is("5: no shelf", x.element(8, 0), 0);
    due.is("5: no shelf below", x.element(-1, 0), 0);
    for (int refusal = 12; refusal <= 16; refusal++) {
      due.is("5: nothing is refused", x.status(refusal), 0);
    }
  }

  private static void holds() {
    BeforeItDrips x = new BeforeItDrips();
    for (int sort = 0; sort < 5; sort++) {
      x.row(sort, sort, 0);
      due.is("6: a row of sort " + sort, x.holds(sort), sort);
    }
    for (int licker = 0; licker < 4; licker++) {
      x.licker(5 - licker, 0);
      x.show(5, licker);
      due.is("6: licker " + licker, x.holds(5), 10 + licker);
    }
    due.is("6: nothing", x.holds(6), -1);
    due.is("6: no shelf", x.holds(8), -1);
    due.is("6: no shelf below", x.holds(-1), -1);
    due.is("6: nothing is refused", x.status(12), 0);
  }

  private static void show() {
    BeforeItDrips x = new BeforeItDrips();
    due.is("7: no licker yet", x.show(0, 0), -2);
    x.licker(4, 1);
    x.licker(1, 1);
    due.is("7: show", x.show(0, 1), 1);
    due.is("7: shown", x.holds(0), 11);
    due.is("7: in use", x.status(17), 1);
    due.is("7: no such licker", x.show(0, 2), -2);
    due.is("7: no such licker below", x.show(0, -2), -2);
    due.is("7: still shown", x.holds(0), 11);
    due.is("7: no shelf", x.show(8, 0), -2);
    due.is("7: no shelf below", x.show(-1, -1), -2);
    due.is("7: nothing again", x.show(0, -1), 1);
    due.is("7: nothing held", x.holds(0), -1);
    x.row(3, 0, 4);
    due.is("7: a row goes", x.show(3, -1), 1);
    due.is("7: a row went", x.holds(3), -1);
    due.is("7: none in use", x.status(17), 0);
  }

  private static void says() {
    // Kinds 0 to 5 against the kinds that they can be taken for.
    int[] takenFor = {0b000001, 0b000011, 0b000101, 0b001101, 0b010011, 0b100101};
    int[] acts = {1, 5, 0, 0, 5, 0};
    for (int kind = 0; kind <= 5; kind++) {
      BeforeItDrips x = new BeforeItDrips();
      x.scoop(0, 9);
      x.licker(kind, 7);
      x.show(2, 0);
      for (int taken = 0; taken <= 5; taken++) {
        int said = taken == 0 ? 7 : acts[kind];
        int want = (takenFor[kind] >> taken & 1) != 0 ? said : -3;
        due.is("8: a licker of kind " + kind + " taken for " + taken, x.says(2, taken), want);
      }
      due.is("8: no kind", x.says(2, 6), -2);
      due.is("8: no kind below", x.says(2, -1), -2);
      due.is("8: no shelf", x.says(8, 0), -2);
      due.is("8: no shelf below", x.says(-1, 0), -2);
      due.is("8: nothing", x.says(3, 0), -4);
      x.row(4, 0, 1);
      due.is("8: a row", x.says(4, 0), -3);
    }
    BeforeItDrips x = new BeforeItDrips();
    x.scoop(8, 90);
    x.licker(4, 0);
    x.licker(1, 0);
    x.show(0, 0);
    x.show(1, 1);
    x.act(0);
    due.is("8: by their own kind: SLOW waits", x.says(0, 1), 0);
    due.is("8: by their own kind: ROUND licks", x.says(1, 1), 1);
    due.is("8: taken for a LICKER it says its a", x.says(1, 0), 0);
    saysByOwnKind();
  }

  /** Rim 1 at side 2, wet 3 at side 5, nothing in front: the kinds do different things, worked by hand. */
  private static BeforeItDrips coneWithALicker(int kind, int a) {
    BeforeItDrips x = new BeforeItDrips();
    x.scoop(1, 50);
    x.sun(1 << 2);
    x.ask(0, 0);
    x.act(0);
    x.ask(0, 5);
    x.sun(1 << 5);
    for (int second = 0; second < 3; second++) {
      x.act(0);
    }
    x.licker(kind, a);
    x.show(0, 0);
    return x;
  }

  private static void saysByOwnKind() {
    // A kind, the kind right above it, its a, its act; DEEP with 1, 2, 3 seconds: nothing to eat, 6 1 eats 3, 0 6 1 eats 4.
    int[][] lickers = {{1, 1, 9, 5}, {4, 1, 2, 5}, {4, 1, 1, 0}, {2, 2, 8, 6}, {3, 2, 1, 5}, {5, 2, 9, 0}, {5, 2, 1, 6},
        {5, 2, 2, 0}};
    for (int[] row : lickers) {
      BeforeItDrips x = coneWithALicker(row[0], row[2]);
      String told = "8: kind " + row[0] + " with " + row[2] + " taken for ";
      due.is(told + "a LICKER", x.says(0, 0), row[2]);
      due.is(told + "its own kind", x.says(0, row[0]), row[3]);
      due.is(told + "the kind above it", x.says(0, row[1]), row[3]);
      due.is("8: nothing was refused", x.status(12) + x.status(13) + x.status(14), 0);
      x.anew();
      due.is(told + "a LICKER, no scoop", x.says(0, 0), row[2]);
      due.is(told + "its own kind, no scoop", x.says(0, row[0]), 0);
    }
    BeforeItDrips x = coneWithALicker(0, 4);
    due.is("8: a LICKER says its a", x.says(0, 0), 4);
    for (int taken = 1; taken <= 5; taken++) {
      due.is("8: a LICKER is none of kind " + taken, x.says(0, taken), -3);
    }
    due.is("8: other than was wanted, five times", x.status(13), 5);
  }
}
