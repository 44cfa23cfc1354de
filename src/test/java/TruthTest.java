/** Promises 40 to 51. */
public final class TruthTest {
  private static final Due due = new Due("TruthTest");

  public static void main(String[] args) {
    done();
    drop();
    went();
    act();
    licks();
    swap();
    day();
    anew();
    seed();
    doneAndLicksAtMost();
    swapOfAll();
    anewOfAll();
    imageAndBack();
    shelvesBehindBack();
    imagesOfAll();
    status();
    refusalsChangeNothing();
    due.end();
  }

  /** Three sides out of the sun that hold nothing: each second 3 are lost, while the scoop lasts. */
  private static BeforeItDrips drippingCone() {
    BeforeItDrips x = new BeforeItDrips();
    x.sides(3);
    x.scoop(2, 99);
    x.ask(0, 0);
    x.ask(1, 0);
    return x;
  }

  /** Three sides with WET 5 and RIM 3 each, four more melting at each in a second; SECONDS 2. */
  private static BeforeItDrips wetCone() {
    BeforeItDrips x = new BeforeItDrips();
    x.sides(3);
    x.scoop(9, 99);
    x.act(0);
    x.act(0);
    return x;
  }

  private static void told(BeforeItDrips x, int s, int sort, long... elements) {
    x.row(s, sort, elements.length);
    for (int i = 0; i < elements.length; i++) {
      x.set(s, i, elements[i]);
    }
  }

  private static void done() {
    BeforeItDrips x = wetCone();
    told(x, 0, 2, 1, 5, 4, 2);
    due.is("40: WRONG", x.done(0, 4), -5);
    due.is("40: nothing is done", x.status(3), 2);
    due.is("40: none", x.done(0, 0), 0);
    due.is("40: LOST by them", x.done(0, 1), 6);
    due.is("40: LOST by them alone", x.done(0, 1), 8);
    due.is("40: SECONDS", x.status(3), 4);
    due.is("40: EATEN", x.status(5), 9);
    due.is("40: drops", x.drop(-1), 2);
    x.licker(0, 0);
    x.show(1, 0);
    due.is("40: no shelf", x.done(8, 1), -2);
    due.is("40: no shelf below", x.done(-1, 1), -2);
    due.is("40: n 41 of a licker", x.done(1, 41), -2);
    due.is("40: n -1 of nothing", x.done(2, -1), -2);
    due.is("40: a licker", x.done(1, 1), -3);
    due.is("40: nothing", x.done(2, 1), -4);
    due.is("40: fewer elements", x.done(0, 5), -2);
    due.is("40: an act too many", x.status(3), 4);
  }

  private static void drop() {
    BeforeItDrips x = drippingCone();
    due.is("41: none", x.drop(-1), 0);
    due.is("41: the first of none", x.drop(0), -5);
    due.is("41: -2", x.drop(-2), -2);
    x.ask(1, 1);
    x.act(0);
    x.act(0);
    due.is("41: the second of it, behind it", x.drop(0), 2);
    due.is("41: not so many", x.drop(1), -5);
    x.row(0, 0, 40);
    x.done(0, 25);
    due.is("41: the first 20", x.drop(-1), 20);
    due.is("41: the last one", x.drop(19), 21);
    due.is("41: not so many, again", x.drop(20), -5);
    x.act(0);
    due.is("41: no more come", x.drop(19), 21);
    x.without(3);
    due.is("41: thoughts drop nothing", x.drop(-1), 20);
  }

  private static void went() {
    BeforeItDrips x = drippingCone();
    told(x, 0, 3, 0, 3, 12, 14);
    due.is("42: no drops", x.went(0, 2), -5);
    x.act(0);
    x.act(0);
    x.ask(1, 20);
    x.act(0);
    x.act(0);
    x.ask(1, 0);
    x.act(0);
    x.act(0);
    due.is("42: drops at 1, 2, 5 and 6", x.drop(2) * 10 + x.drop(3), 56);
    due.is("42: two", x.went(0, 2), 8);
    due.is("42: three", x.went(0, 3), 8);
    due.is("42: four that don't fit", x.went(0, 4), 0);
    due.is("42: one", x.went(0, 1), -2);
    due.is("42: 21", x.went(0, 21), -2);
    due.is("42: fewer elements", x.went(0, 5), -2);
    told(x, 1, 0, 10, 19);
    due.is("42: nine yards", x.went(1, 2), 512);
    told(x, 1, 0, 10, 20);
    due.is("42: ten yards", x.went(1, 2), 0);
    told(x, 1, 0, 10, 10);
    due.is("42: no yards", x.went(1, 2), 0);
    told(x, 1, 0, 10, 9);
    due.is("42: back", x.went(1, 2), 0);
    told(x, 1, 0, 10, 11);
    due.is("42: one yard", x.went(1, 2), 2);
    told(x, 2, 3, Long.MAX_VALUE, Long.MIN_VALUE + 4);
    due.is("42: differences wrap", x.went(2, 2), 32);
    told(x, 3, 1, 0, 1, 4, 5, 9);
    due.is("42: more than there are drops", x.went(3, 5), -5);
    due.is("42: as many", x.went(3, 4), 2);
    x.licker(0, 0);
    x.show(4, 0);
    due.is("42: no shelf", x.went(8, 2), -2);
    due.is("42: no shelf below", x.went(-1, 2), -2);
    due.is("42: n 1 of a licker", x.went(4, 1), -2);
    due.is("42: a licker", x.went(4, 2), -3);
    due.is("42: nothing", x.went(5, 2), -4);
  }

  private static void act() {
    BeforeItDrips x = new BeforeItDrips();
    due.is("43: no scoop", x.act(1), -5);
    due.is("43: the rim of none", x.act(4), 0);
    due.is("43: 7", x.act(7), -2);
    due.is("43: -1", x.act(-1), -2);
    due.is("43: back behind 0", x.act(6), 0);
    due.is("43: TURN", x.status(8), 5);
    x.act(5);
    due.is("43: on behind the last", x.status(8), 0);
    due.is("43: SECONDS", x.status(3), 3);
    BeforeItDrips y = wetCone();
    due.is("43: LOST by it", y.act(0), 9);
    due.is("43: LOST by this one", y.act(0), 12);
    due.is("43: all LOST", y.status(4), 21);
    y.act(4);
    due.is("43: the rim is eaten", y.status(5), 4);
    due.is("43: it runs again", y.wet(-1, 0), 4);
    due.is("43: SOAK", y.status(7), 12);
    y.ask(2, 3);
    y.act(1);
    due.is("43: LICK at most", y.status(5), 7);
    due.is("43: a scoop that isn't there", y.act(2), -5);
    y.scoop(2, 9);
    due.is("43: one that is, with nothing", y.act(2), 12);
    due.is("43: nothing of it", y.status(5), 7);
    due.is("43: then with something", y.act(2), 12);
    due.is("43: that is eaten", y.status(5), 8);
    meltsAndRuns();
  }

  private static void meltsAndRuns() {
    BeforeItDrips x = new BeforeItDrips();
    x.sides(4);
    x.sun(0b1001);
    x.scoop(3, 50);
    x.scoop(7, 20);
    x.ask(0, 4);
    x.ask(1, 1);
    // Side 1 is in front behind the act: sides 1 and 0 (places 0 and 3) are in the sun.
    due.is("43: LOST", x.act(5), 2);
    int[][] wet = {{4, 4, 1, 1}, {4, 4, 3, 3}, {1, 1, 0, 0}};
    for (int side = 0; side < 4; side++) {
      due.is("43: lower scoop at " + side, x.wet(0, side), wet[0][side]);
      due.is("43: upper scoop at " + side, x.wet(1, side), wet[1][side]);
      due.is("43: rim at " + side, x.wet(-1, side), wet[2][side]);
    }
    due.is("43: SOAK of two", x.status(7), 2);
    due.is("43: LEFT", x.status(6), 70 - x.status(4));
  }

  private static void licks() {
    BeforeItDrips x = wetCone();
    x.licker(0, 0);
    due.is("44: EATEN", x.licks(0, 1), 5);
    due.is("44: EATEN by these", x.licks(0, 2), 8);
    due.is("44: SECONDS", x.status(3), 5);
    due.is("44: drops", x.drop(-1), 3);
    due.is("44: n 0", x.licks(0, 0), -2);
    due.is("44: n 61", x.licks(0, 61), -2);
    due.is("44: no licker", x.licks(1, 1), -2);
    due.is("44: no licker below", x.licks(-1, 1), -2);
    x.licks(0, 60);
    due.is("44: sixty", x.status(3), 65);
  }

  private static void swap() {
    BeforeItDrips x = new BeforeItDrips();
    x.scoop(2, 20);
    x.scoop(4, 30);
    x.act(0);
    due.is("45: one", x.swap(1, 1), 0);
    due.is("45: two", x.swap(0, 1), 1);
    due.is("45: SORT", x.scoopOf(0, 0), 4);
    due.is("45: AMOUNT", x.scoopOf(0, 1), 18);
    due.is("45: WET", x.wet(0, 3), 2);
    due.is("45: the other", x.scoopOf(1, 0) * 100 + x.scoopOf(1, 1), 214);
    due.is("45: the other's WET", x.wet(1, 3), 1);
    due.is("45: no second", x.status(3), 1);
    due.is("45: no scoop", x.swap(0, 2), -2);
    due.is("45: no scoop first", x.swap(2, 0), -2);
    due.is("45: no scoop below", x.swap(-1, -1), -2);
  }

  private static void day() {
    BeforeItDrips x = new BeforeItDrips();
    x.licker(1, 0);
    due.is("46: k 0", x.day(0, 0), -2);
    due.is("46: k 61", x.day(0, 61), -2);
    due.is("46: no licker", x.day(1, 1), -2);
    due.is("46: no licker below", x.day(-1, 1), -2);
    due.is("46: nothing is drawn", x.status(11), 1);
    due.is("46: nothing is lost", x.day(0, 1), 0);
    due.is("46: SUN of 198", x.status(9), 6);
    due.is("46: SEED", x.status(11), 1103527590);
    x.sides(8);
    x.day(0, 60);
    due.is("46: SUN of 126", x.status(9), 126);
    due.is("46: SEED wraps", x.status(11), -1770082073);
    due.is("46: SECONDS", x.status(3), 61);
    BeforeItDrips y = drippingCone();
    y.licker(0, 0);
    y.licker(1, 0);
    // SUN 6 of sides 0 to 2: places 1 and 2 melt 2, place 0 melts 1.
    due.is("46: LOST in its sun", y.day(0, 2), 10);
    due.is("46: LOST by this day", y.day(0, 1), 5);
    due.is("46: drops", y.drop(-1), 3);
    y.seed(-5);
    y.day(0, 1);
    due.is("46: of a SEED below 0", y.status(11), -1222596584);
  }

  private static void anew() {
    BeforeItDrips x = wetCone();
    x.licker(3, 3);
    x.ask(4, 2);
    x.sun(5);
    x.act(1);
    int lost = x.status(4);
    due.is("47: LEFT ahead", x.anew(), 94 - lost);
    int[] want = {3, 0, 1, 3, lost, 5, 0, 0, 2, 5, 0, 1};
    for (int what = 0; what < want.length; what++) {
      due.is("47: status(" + what + ")", x.status(what), want[what]);
    }
    due.is("47: HOLD goes on", x.status(18), 5);
    for (int side = 0; side < 3; side++) {
      due.is("47: rim at " + side, x.wet(-1, side), 0);
    }
    due.is("47: no drops", x.drop(-1), 0);
    due.is("47: nothing LEFT", x.anew(), 0);
    x.scoop(9, 99);
    due.is("47: a new scoop is dry", x.scoopOf(0, 2), 0);
  }

  private static void doneAndLicksAtMost() {
    BeforeItDrips x = drippingCone();
    x.licker(0, 0);
    x.row(0, 0, 40);
    x.row(1, 3, 0);
    due.is("40: none of no elements", x.done(1, 0), 0);
    due.is("40: none of forty", x.done(0, 0), 0);
    due.is("40: no second", x.status(3), 0);
    due.is("40: forty", x.done(0, 40), 99);
    due.is("40: forty SECONDS", x.status(3), 40);
    due.is("44: one", x.licks(0, 1), 0);
    due.is("44: one SECOND", x.status(3), 41);
    due.is("44: sixty", x.licks(0, 60), 0);
    due.is("44: sixty SECONDS", x.status(3), 101);
    due.is("46: one", x.day(0, 1), 0);
    due.is("46: one SECOND", x.status(3), 102);
    due.is("46: sixty", x.day(0, 60), 0);
    due.is("46: sixty SECONDS", x.status(3), 162);
    told(x, 2, 0, 0, 0, 3, 0);
    due.is("40: nothing is done ahead of what is WRONG", x.done(2, 4), -5);
    due.is("40: no SECONDS by what is STUCK", x.status(3), 162);
    due.is("40: the first two", x.done(2, 2), 0);
    due.is("40: two SECONDS", x.status(3), 164);
    BeforeItDrips none = new BeforeItDrips();
    none.licker(1, 0);
    due.is("44: of an empty cone", none.licks(0, 60), 0);
    due.is("44: SECONDS of an empty cone", none.status(3), 60);
  }

  private static void swapOfAll() {
    int[][] wet = {{1, 0, 0, 2, 0, 0, 0, 3}, {4, 0, 5, 0, 0, 0, 0, 6}, {7, 8, 0, 0, 0, 0, 0, 9}};
    for (int scoop = 0; scoop < 3; scoop++) {
      for (int other = 0; other < 3; other++) {
        BeforeItDrips x = Poured.cone(new int[8], wet[0], wet[1], wet[2]);
        int seconds = x.status(3);
        due.is("45: " + scoop + " and " + other, x.swap(scoop, other), scoop == other ? 0 : 1);
        for (int i = 0; i < 3; i++) {
          int was = i == scoop ? other : i == other ? scoop : i;
          for (int side = 0; side < 8; side++) {
            due.is("45: WET of " + i + " at " + side, x.wet(i, side), wet[was][side]);
          }
        }
        due.is("45: no SECOND goes by", x.status(3), seconds);
      }
    }
  }

  private static void anewOfAll() {
    BeforeItDrips x = Poured.cone(new int[] {4, 1, 0}, new int[] {5, 6, 7});
    x.scoop(9, 99);
    x.scoop(0, 11);
    x.licker(2, 2);
    x.ask(1, 3);
    x.ask(2, 8);
    x.ask(3, 9);
    x.ask(4, 2);
    x.sun(6);
    x.seed(5);
    x.act(4);
    int[] ahead = new int[22];
    for (int what = 0; what < 22; what++) {
      ahead[what] = x.status(what);
    }
    due.is("47: LEFT ahead", x.anew(), ahead[6]);
    for (int what = 0; what < 22; what++) {
      boolean goes = what == 1 || what == 6 || what == 7;
      due.is("47: status(" + what + ") behind", x.status(what), goes ? 0 : ahead[what]);
    }
    due.is("47: it had dripped", ahead[4], 1);
    due.is("47: no DROPS", x.drop(-1), 0);
    due.is("47: SIDES may be asked for again", x.sides(8), 3);
    for (int side = 0; side < 8; side++) {
      due.is("47: RIM at " + side, x.wet(-1, side), 0);
    }
    due.is("47: the licker is there", x.lickerOf(0, 1), 2);
    due.is("47: scoops from 0 on", x.scoop(1, 1), 0);
  }

  private static void shelvesBehindBack() {
    for (int there = 0; there <= 4; there++) {
      BeforeItDrips x = new BeforeItDrips();
      for (int licker = 0; licker < there; licker++) {
        x.licker(1, licker);
      }
      x.image();
      for (int licker = there; licker < 4; licker++) {
        x.licker(2, 9);
      }
      for (int s = 0; s < 8; s++) {
        x.show(s, (s + there) % 4);
      }
      x.anew();
      due.is("47: SHELVES stay", x.status(17), 8);
      due.is("50: back to " + there + " lickers", x.back(), 1);
      for (int s = 0; s < 8; s++) {
        int licker = (s + there) % 4;
        due.is("50: shelf " + s + " with " + there, x.holds(s), licker < there ? 10 + licker : -1);
        due.is("50: says " + s + " with " + there, x.says(s, 0), licker < there ? licker : -4);
      }
      due.is("50: LICKERS", x.status(2), there);
      due.is("50: SHELVES that hold something", x.status(17), 2 * there);
      due.is("50: there is room again", x.licker(5, 5), there < 4 ? there : -6);
    }
    // A licker of the same number, who is another one.
    BeforeItDrips x = new BeforeItDrips();
    x.image();
    x.licker(4, 4);
    x.show(0, 0);
    x.row(1, 4, 40);
    x.back();
    due.is("50: none of that number", x.holds(0), -1);
    due.is("50: rows stay", x.holds(1), 4);
    x.licker(3, 6);
    x.show(0, 0);
    x.image();
    x.back();
    due.is("50: who is there stays", x.says(0, 3), 0);
    due.is("50: its a", x.says(0, 0), 6);
  }

  private static void imagesOfAll() {
    BeforeItDrips x = drippingCone();
    x.image();
    x.row(0, 0, 40);
    due.is("49: twenty-five drops", x.done(0, 25), 75);
    x.back();
    due.is("50: none", x.drop(-1), 0);
    due.is("50: SECONDS go back", x.status(3), 0);
    due.is("50: LOST goes back", x.status(4), 0);
    x.act(0);
    x.act(0);
    due.is("49: image", x.image(), 1);
    x.anew();
    x.sides(8);
    x.seed(-1);
    for (int i = 0; i < 2; i++) {
      due.is("50: back", x.back(), 1);
      due.is("50: drops", x.drop(-1), 2);
      due.is("50: SIDES", x.status(0), 3);
      due.is("50: SCOOPS", x.status(1), 1);
      due.is("50: SEED", x.status(11), 1);
      due.is("50: AMOUNT", x.scoopOf(0, 1), 93);
      x.act(0);
      x.scoop(1, 1);
      x.swap(0, 1);
    }
    Due.feed(x, "hold 3");
    x.image();
    x.wipe();
    Due.feed(x, "hold 7;");
    x.back();
    due.is("50: THE TAPE is as it is", x.status(10), 7);
    due.is("50: its bytes, too", x.kerb(), -27);
  }

  private static void seed() {
    BeforeItDrips x = new BeforeItDrips();
    due.is("48: 1 at first", x.seed(-7), 1);
    due.is("48: the one ahead", x.seed(Integer.MIN_VALUE), -7);
    due.is("48: SEED", x.status(11), Integer.MIN_VALUE);
  }

  private static void imageAndBack() {
    BeforeItDrips x = new BeforeItDrips();
    due.is("50: nothing was kept", x.back(), -5);
    x.sides(5);
    x.sun(21);
    x.ask(0, 3);
    x.ask(1, 2);
    x.ask(2, 8);
    x.ask(3, 77);
    x.ask(4, 4);
    x.scoop(8, 88);
    x.licker(2, 5);
    x.seed(9);
    x.act(0);
    x.act(1);
    String kept = allOf(x);
    due.is("49: image", x.image(), 1);
    x.feed(115);
    x.licker(4, 4);
    x.show(0, 0);
    x.show(1, 1);
    x.row(2, 3, 3);
    x.set(2, 1, 5);
    x.scoop(10, 0);
    int refused = x.status(12);
    x.day(1, 9);
    x.anew();
    x.sides(8);
    x.sun(255);
    x.ask(0, 0);
    x.ask(1, 0);
    x.ask(2, 1);
    x.ask(3, 1);
    x.scoop(9, 9);
    x.scoop(9, 9);
    x.act(0);
    due.holds("50: much is otherwise", !kept.equals(allOf(x)));
    due.is("50: back", x.back(), 1);
    due.holds("50: all is as it was kept", kept.equals(allOf(x)));
    due.is("50: THE TAPE isn't kept", x.status(10), 1);
    due.is("50: REFUSALS aren't kept", x.status(12), refused);
    due.is("50: STUCK from ahead", x.status(15), 1);
    due.is("50: a licker that there is", x.holds(0), 10);
    due.is("50: a licker that there is no more", x.holds(1), -1);
    due.is("50: rows aren't kept", x.holds(2), 3);
    due.is("50: rows aren't kept, nor their elements", x.element(2, 1), 5);
    x.act(0);
    x.licker(0, 0);
    due.is("50: and again", x.back(), 1);
    due.holds("50: and again all", kept.equals(allOf(x)));
    x.act(0);
    x.image();
    String newer = allOf(x);
    x.act(0);
    x.back();
    due.holds("49: the newer image", newer.equals(allOf(x)));
  }

  /** All that an image keeps. */
  private static String allOf(BeforeItDrips x) {
    StringBuilder all = new StringBuilder();
    for (int what = 0; what <= 21; what++) {
      if (what < 10 || what == 11 || what > 17) {
        all.append(x.status(what)).append(' ');
      }
    }
    for (int scoop = -1; scoop < x.status(1); scoop++) {
      for (int side = 0; side < x.status(0); side++) {
        all.append(x.wet(scoop, side)).append(' ');
      }
      all.append(scoop < 0 ? 0 : x.scoopOf(scoop, 0) * 100 + x.scoopOf(scoop, 1)).append(' ');
    }
    for (int i = 0; i < x.drop(-1); i++) {
      all.append(x.drop(i)).append(' ');
    }
    for (int licker = 0; licker < x.status(2); licker++) {
      all.append(x.lickerOf(licker, 0)).append(x.lickerOf(licker, 1)).append(' ');
    }
    return all.toString();
  }

  private static void status() {
    BeforeItDrips x = new BeforeItDrips();
    x.sides(5);
    x.scoop(9, 99);
    x.scoop(2, 40);
    x.licker(0, 0);
    x.licker(0, 0);
    x.licker(0, 0);
    x.sun(1);
    x.act(5);
    x.act(5);
    x.act(1);
    x.feed(59);
    x.feed(59);
    x.seed(77);
    x.row(0, 0, 0);
    x.row(1, 0, 0);
    x.show(2, 2);
    x.ask(0, 11);
    x.ask(1, 12);
    x.ask(2, 13);
    x.ask(3, 14);
    x.act(7);
    x.set(2, 0, 0);
    x.set(3, 0, 0);
    x.set(3, 0, 0);
    x.sides(4);
    x.sides(4);
    x.sides(4);
    x.scoop(1, 1);
    x.scoop(1, 1);
    x.scoop(1, 1);
    x.scoop(1, 1);
    int[] want = {5, 3, 3, 3, x.status(4), x.status(5), 0, x.status(7), 2, 1, 2, 77, 1, 1, 2, 3, 3, 3, 11, 12, 13, 14, -1};
    want[6] = 140 - want[4] - want[5];
    for (int what = 0; what < want.length; what++) {
      due.is("51: status(" + what + ")", x.status(what), want[what]);
    }
    due.is("51: status(-1)", x.status(-1), -1);
    due.is("51: status of the least", x.status(Integer.MIN_VALUE), -1);
    // Side 1 is in the sun, then side 2, then it again, licked; sides 1 and 2 lose 4 each, then 3, 4, 4, 3, 3 are lost.
    due.is("51: LOST", want[4], 25);
    due.is("51: EATEN", want[5], 5);
    due.is("51: SOAK", want[7], 11);
    due.is("51: nothing is refused by status", x.status(12), 1);
  }

  private static void refusalsChangeNothing() {
    BeforeItDrips x = wetCone();
    x.licker(1, 0);
    x.image();
    String ahead = allOf(x);
    x.sides(4);
    x.scoop(10, 1);
    x.sun(8);
    x.ask(4, 3);
    x.licker(6, 6);
    x.act(3);
    x.licks(0, 61);
    x.day(0, 61);
    x.swap(0, 1);
    x.done(0, 1);
    Due.kerb(x, "lick 0; lick 9");
    due.holds("REFUSALS: nothing changes", ahead.equals(allOf(x)));
    due.is("REFUSALS: but how many there were, BAD", x.status(12), 8);
    due.is("REFUSALS: STUCK", x.status(15), 2);
    due.is("REFUSALS: NOTHING", x.status(14), 1);
  }
}
