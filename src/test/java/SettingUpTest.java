/** Promises 9 to 20. */
public final class SettingUpTest {
  private static final Due due = new Due("SettingUpTest");

  public static void main(String[] args) {
    sides();
    scoop();
    sun();
    ask();
    licker();
    feedAndWipe();
    kerb();
    kerbFaults();
    kerbAllOrNothing();
    scoopOf();
    wet();
    lickerOf();
    sunny();
    due.end();
  }

  private static void sides() {
    BeforeItDrips x = new BeforeItDrips();
    x.ask(4, 5);
    x.sun(0b111001);
    due.is("9: sides(4)", x.sides(4), 6);
    due.is("9: SIDES", x.status(0), 4);
    due.is("9: TURN", x.status(8), 0);
    due.is("9: SUN", x.status(9), 0b1001);
    due.is("9: sides(8)", x.sides(8), 4);
    due.is("9: places don't come again", x.status(9), 0b1001);
    due.is("9: sides(3)", x.sides(3), 8);
    x.ask(4, 2);
    due.is("9: as many as there are", x.sides(3), 3);
    due.is("9: TURN 0 all the same", x.status(8), 0);
    due.is("9: two", x.sides(2), -2);
    due.is("9: nine", x.sides(9), -2);
    x.scoop(0, 0);
    due.is("9: scoops", x.sides(4), -5);
    due.is("9: bad ahead of scoops", x.sides(9), -2);
    x.anew();
    due.is("9: none again", x.sides(5), 3);
  }

  private static void scoop() {
    BeforeItDrips x = new BeforeItDrips();
    due.is("10: no sort", x.scoop(10, 1), -2);
    due.is("10: no sort below", x.scoop(-1, 1), -2);
    due.is("10: no amount", x.scoop(1, 100), -2);
    due.is("10: no amount below", x.scoop(1, -1), -2);
    due.is("10: first", x.scoop(9, 99), 0);
    due.is("10: second", x.scoop(0, 0), 1);
    due.is("10: third", x.scoop(5, 50), 2);
    due.is("10: full", x.scoop(5, 50), -6);
    due.is("10: bad ahead of full", x.scoop(5, 100), -2);
    due.is("10: SCOOPS", x.status(1), 3);
    due.is("10: full told", x.status(16), 1);
    due.is("10: bad told", x.status(12), 5);
    due.is("10: sort", x.scoopOf(2, 0), 5);
    due.is("10: amount", x.scoopOf(0, 1), 99);
    x.act(0);
    x.anew();
    x.scoop(3, 4);
    due.is("10: a new one is dry", x.scoopOf(0, 2), 0);
  }

  private static void sun() {
    BeforeItDrips x = new BeforeItDrips();
    due.is("11: sun(63)", x.sun(63), 0);
    due.is("11: sun(5)", x.sun(5), 63);
    due.is("11: sun(0)", x.sun(0), 5);
    due.is("11: sun(64)", x.sun(64), -2);
    due.is("11: sun(-1)", x.sun(-1), -2);
    x.sides(8);
    due.is("11: sun(255)", x.sun(255), 0);
    due.is("11: sun(256)", x.sun(256), -2);
    due.is("11: SUN", x.status(9), 255);
    x.sides(3);
    due.is("11: sun(8)", x.sun(8), -2);
    due.is("11: sun(7)", x.sun(7), 7);
  }

  private static void ask() {
    BeforeItDrips x = new BeforeItDrips();
    int[] first = {5, 4, 6, 200, 0};
    int[] least = {0, 0, 1, 1, 0};
    int[] most = {20, 20, 20, 999, 5};
    int[] told = {18, 19, 20, 21, 8};
    for (int what = 0; what < 5; what++) {
      due.is("12: least of " + what, x.ask(what, least[what]), first[what]);
      due.is("12: told of " + what, x.status(told[what]), least[what]);
      due.is("12: most of " + what, x.ask(what, most[what]), least[what]);
      due.is("12: below of " + what, x.ask(what, least[what] - 1), -2);
      due.is("12: above of " + what, x.ask(what, most[what] + 1), -2);
      due.is("12: stays, of " + what, x.status(told[what]), most[what]);
    }
    due.is("12: no such", x.ask(5, 1), -2);
    due.is("12: no such below", x.ask(-1, 1), -2);
    x.sides(8);
    due.is("12: TURN of eight", x.ask(4, 7), 0);
  }

  private static void licker() {
    BeforeItDrips x = new BeforeItDrips();
    due.is("13: no kind", x.licker(6, 0), -2);
    due.is("13: no kind below", x.licker(-1, 0), -2);
    due.is("13: no a", x.licker(0, 10), -2);
    due.is("13: no a below", x.licker(0, -1), -2);
    due.is("13: first", x.licker(5, 9), 0);
    due.is("13: second", x.licker(0, 0), 1);
    due.is("13: third", x.licker(0, 0), 2);
    due.is("13: fourth", x.licker(1, 1), 3);
    due.is("13: full", x.licker(1, 1), -6);
    due.is("13: bad ahead of full", x.licker(6, 1), -2);
    due.is("13: LICKERS", x.status(2), 4);
  }

  private static void feedAndWipe() {
    BeforeItDrips x = new BeforeItDrips();
    due.is("14: 256", x.feed(256), -2);
    due.is("14: -1", x.feed(-1), -2);
    due.is("15: empty", x.wipe(), 0);
    for (int i = 1; i <= 250; i++) {
      due.is("14: byte " + i, x.feed(i == 1 ? 0 : 255), i);
    }
    due.is("14: full", x.feed(32), -6);
    due.is("14: bad ahead of full", x.feed(256), -2);
    due.is("14: size", x.status(10), 250);
    due.is("15: wipe", x.wipe(), 250);
    due.is("15: size", x.status(10), 0);
    due.is("14: again", x.feed(59), 1);
  }

  private static void kerb() {
    BeforeItDrips x = new BeforeItDrips();
    x.ask(4, 3);
    due.is("16: all statements", Due.kerb(x,
        " sides 8;scoop 9 99 ; scoop0 07;sun 7 0 3;hold 20;brim 0;licker 5 9;licker3 0;lick 5;lick6 ;  lick 1 "), 11);
    int[] told = {8, 2, 2, 3, 6, 0};
    int[] status = {0, 1, 2, 3, 5, 8};
    due.is("16: the tape is empty", x.status(10), 0);
    for (int i = 0; i < told.length; i++) {
      due.is("16: status(" + status[i] + ") behind", x.status(status[i]), told[i]);
    }
    due.is("16: SUN", x.status(9), 0b10001001);
    due.is("16: HOLD", x.status(18), 20);
    due.is("16: BRIM", x.status(19), 0);
    due.is("16: scoop 1", x.scoopOf(1, 1), 7);
    due.is("16: licker 0", x.lickerOf(0, 1), 9);
    due.is("16: licker 1", x.lickerOf(1, 0), 3);
    due.is("16: all is there", x.status(6) + x.status(5) + x.status(4), 106);
    due.is("16: nothing is refused", x.status(12), 0);
    due.is("16: a tape that is full", Due.kerb(x, "lick 0;".repeat(35) + "sun 0"), 36);
    due.is("16: a full tape that ends too early", Due.kerb(x, "lick 0;".repeat(35) + "sun  "), -270);
    BeforeItDrips y = new BeforeItDrips();
    y.ask(4, 3);
    y.sun(63);
    due.is("16: sides by a kerb", Due.kerb(y, "sides 4"), 1);
    due.is("16: sides by a kerb turn", y.status(8), 0);
    due.is("16: sides by a kerb and the sun", y.status(9), 15);
    due.is("16: sun of those alone", Due.kerb(y, "sun 1"), 1);
    due.is("16: those alone", y.status(9), 2);
    due.is("16: sun of all", Due.kerb(y, "sides 8;sun 0 1 2 3 4 5 6 7"), 2);
    due.is("16: sun of all told", y.status(9), 255);
    due.is("16: a drop", Due.kerb(y, "sides 3; scoop 9 99; hold 0; brim 0; lick 0"), 5);
    due.is("16: drops are in truth", y.drop(-1), 1);
  }

  private static void fault(String text, int place) {
    BeforeItDrips x = new BeforeItDrips();
    due.is("16: '" + text + "'", Due.kerb(x, text), -20 - place);
    due.is("16: '" + text + "' is refused", x.status(12), 1);
    due.is("16: '" + text + "' empties the tape", x.status(10), 0);
    due.is("16: '" + text + "' makes no scoop", x.status(1), 0);
    due.is("16: '" + text + "' makes no licker", x.status(2), 0);
    due.is("16: '" + text + "' passes no second", x.status(3), 0);
  }

  private static void kerbFaults() {
    fault("", 0);
    fault("   ", 3);
    fault(";", 0);
    fault("5", 0);
    fault("sidesx 5", 0);
    fault("sidesa 5", 0);
    fault("sidesz 5", 0);
    fault("sides5z", 6);
    fault("side 5", 0);
    fault("Sides 5", 0);
    fault("sides", 5);
    fault("sides  ", 7);
    fault("sides ;", 6);
    fault("sides x", 6);
    fault("sides 2", 6);
    fault("sides 9", 6);
    fault("sides 005", 6);
    fault("sides 5 5", 8);
    fault("sides 5x", 7);
    fault("sides 5;", 8);
    fault("sides 5; ", 9);
    fault("sides 5;;", 8);
    fault("sides 5-", 7);
    fault("sides\t5", 5);
    fault("sides 5; scoop 9 99 sun 1", 20);
    fault("scoop", 5);
    fault("scoop;sun 1", 5);
    fault("scoop 1;sun 1", 7);
    fault("scoop 10 1", 6);
    fault("scoop 1", 7);
    fault("scoop 1 100", 8);
    fault("scoop 1 1 1", 10);
    fault("scoop 1 1;sides 5", 10);
    fault("scoop 1 1;sides x", 10);
    fault("scoop 1 1;scoop 1 1;scoop 1 1;scoop 1 1", 30);
    fault("scoop 1 1;scoop 1 1;scoop 1 1;scoop x", 30);
    fault("sun", 3);
    fault("sun ;", 4);
    fault("sun 6", 4);
    fault("sun 5 6", 6);
    fault("sun 0 1 0", 8);
    fault("sides 3;sun 3", 12);
    fault("sides 8;sun 0 1 2 3 4 5 6 7 0", 28);
    fault("sun 1 x", 6);
    fault("hold 21", 5);
    fault("hold", 4);
    fault("hold;sun 1", 4);
    fault("brim", 4);
    fault("brim;sun 1", 4);
    fault("licker", 6);
    fault("licker;sun 1", 6);
    fault("licker 1;sun 1", 8);
    fault("lick;sun 1", 4);
    fault("brim 21", 5);
    fault("brim 1 brim", 7);
    fault("licker 6 0", 7);
    fault("licker 0 10", 9);
    fault("licker 0", 8);
    fault("licker 0 0;licker 0 0;licker 0 0;licker 0 0;licker 0 0", 44);
    fault("lick 7", 5);
    fault("lick 1", 5);
    fault("scoop 1 1;lick 2", 15);
    fault("lick", 4);
    fault("lick 99999999999999999999", 5);
    fault("\u00e9", 0);
  }

  private static void kerbAllOrNothing() {
    BeforeItDrips x = new BeforeItDrips();
    x.sun(9);
    x.ask(0, 0);
    x.ask(1, 0);
    x.ask(4, 2);
    due.is("16: fails behind all", Due.kerb(x, "licker 1 2;sides 3;scoop 9 90;sun 1;hold 2;brim 3;lick 0;lick 5;lick 7"), -89);
    int[] want = {6, 0, 0, 0, 0, 0, 0, 0, 2, 9, 0, 1, 1};
    for (int what = 0; what < want.length; what++) {
      due.is("16: nothing comes, status(" + what + ")", x.status(what), want[what]);
    }
    due.is("16: HOLD stays", x.status(18), 0);
    due.is("16: BRIM stays", x.status(19), 0);
    due.is("16: no DROPS", x.drop(-1), 0);
    due.is("16: what is read later stands on what was read ahead", Due.kerb(x, "scoop 1 1;lick 1"), 2);
  }

  private static void scoopOf() {
    BeforeItDrips x = new BeforeItDrips();
    x.scoop(4, 60);
    x.act(0);
    due.is("17: SORT", x.scoopOf(0, 0), 4);
    due.is("17: AMOUNT", x.scoopOf(0, 1), 48);
    due.is("17: all its WET", x.scoopOf(0, 2), 12);
    due.is("17: no scoop", x.scoopOf(1, 0), -2);
    due.is("17: no scoop below", x.scoopOf(-1, 0), -2);
    due.is("17: no what", x.scoopOf(0, 3), -2);
    due.is("17: no what below", x.scoopOf(0, -1), -2);
  }

  private static void wet() {
    BeforeItDrips x = new BeforeItDrips();
    x.scoop(9, 30);
    x.sun(1);
    x.ask(0, 7);
    x.act(0);
    // Side 0 melts 9, sides 1 to 5 melt 4 each: 29, with 1 left; HOLD 7 lets 2 run down to the rim.
    due.is("18: in the sun", x.wet(0, 0), 7);
    due.is("18: out of it", x.wet(0, 5), 4);
    due.is("18: rim", x.wet(-1, 0), 2);
    due.is("18: rim elsewhere", x.wet(-1, 5), 0);
    x.act(0);
    due.is("18: no more than its amount", x.wet(0, 0) + x.wet(-1, 0), 10);
    due.is("18: nothing for the others", x.wet(0, 1), 4);
    due.is("18: no scoop", x.wet(1, 0), -2);
    due.is("18: no scoop below", x.wet(-2, 0), -2);
    due.is("18: no side", x.wet(0, 6), -2);
    due.is("18: no side below", x.wet(-1, -1), -2);
  }

  private static void lickerOf() {
    BeforeItDrips x = new BeforeItDrips();
    due.is("19: none", x.lickerOf(0, 0), -2);
    x.licker(4, 7);
    due.is("19: KIND", x.lickerOf(0, 0), 4);
    due.is("19: a", x.lickerOf(0, 1), 7);
    due.is("19: no what", x.lickerOf(0, 2), -2);
    due.is("19: no what below", x.lickerOf(0, -1), -2);
    due.is("19: no licker below", x.lickerOf(-1, 0), -2);
  }

  private static void sunny() {
    BeforeItDrips x = new BeforeItDrips();
    x.sun(0b000110);
    x.ask(4, 4);
    // Side 0 is at place 0 - 4 + 6 = 2, side 5 at place 1.
    int[] want = {1, 0, 0, 0, 0, 1};
    for (int side = 0; side < 6; side++) {
      due.is("20: side " + side, x.sunny(side), want[side]);
    }
    due.is("20: no side", x.sunny(6), -2);
    due.is("20: no side below", x.sunny(-1), -2);
    x.act(5);
    due.is("20: turned", x.sunny(1), 1);
    due.is("20: turned away", x.sunny(5), 0);
  }
}
