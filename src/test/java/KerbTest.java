/** THE TAPE, TOKENS, STATEMENTS and the FAULT (Terms 1, promises 14 to 16), edge by edge. */
public final class KerbTest {
  private static final Due due = new Due("KerbTest");
  private static final String[] WORDS = {"sides", "scoop", "sun", "hold", "brim", "licker", "lick"};
  /** A statement of each word that can stand on a new cone. */
  private static final String[] STATEMENTS = {"sides 8", "scoop 9 99", "sun 5 0", "hold 20", "brim 20", "licker 5 9", "lick 6"};

  public static void main(String[] args) {
    leastAndMost();
    twoDigitsAtMost();
    wordsAsTheyAre();
    numbersForWords();
    tokensAsLongAsCanBe();
    blanks();
    endsTooEarly();
    everyByte();
    places();
    roomAndScoops();
    actsThatCanBe();
    whatComes();
    allOrNothing();
    theWholeTape();
    due.end();
  }

  private static void reads(String text, int statements) {
    BeforeItDrips x = new BeforeItDrips();
    due.is("'" + text + "'", Due.kerb(x, text), statements);
    due.is("'" + text + "': THE TAPE is empty then", x.status(10), 0);
    due.is("'" + text + "' isn't refused", x.status(12), 0);
  }

  private static void fault(String text, int place) {
    BeforeItDrips x = new BeforeItDrips();
    String ahead = Calls.all(x);
    due.is("'" + text + "'", Due.kerb(x, text), -20 - place);
    due.is("'" + text + "': THE TAPE is empty then", x.status(10), 0);
    due.is("'" + text + "' is refused: BAD", x.status(12), 1);
    due.holds("'" + text + "': nothing comes", ahead.equals(Calls.all(x)));
  }

  private static void leastAndMost() {
    String[] least = {"sides 3", "scoop 0 0", "sun 0", "hold 0", "brim 0", "licker 0 0", "lick 0"};
    for (int i = 0; i < WORDS.length; i++) {
      reads(least[i], 1);
      reads(STATEMENTS[i], 1);
    }
    fault("sides 0", 6);
    fault("sides 2", 6);
    fault("sides 9", 6);
    fault("scoop 10 1", 6);
    fault("scoop 99 99", 6);
    fault("hold 21", 5);
    fault("brim 21", 5);
    fault("licker 6 1", 7);
    fault("licker 1 10", 9);
    fault("lick 7", 5);
    fault("sun 6", 4);
    fault("sun 99", 4);
    for (int n = 3; n <= 8; n++) {
      reads("sides " + n + ";sun " + (n - 1), 2);
      fault("sides " + n + ";sun " + n, 12);
    }
  }

  private static void twoDigitsAtMost() {
    reads("sides 08", 1);
    reads("scoop 09 00", 1);
    reads("sun 00 05", 1);
    reads("hold 05;brim 00;licker 05 09;lick 06", 4);
    fault("sides 006", 6);
    fault("scoop 009 1", 6);
    fault("scoop 1 100", 8);
    fault("scoop 1 099", 8);
    fault("sun 000", 4);
    fault("sun 1 002", 6);
    fault("hold 005", 5);
    fault("brim 020", 5);
    fault("licker 000 1", 7);
    fault("licker 1 001", 9);
    fault("lick 000", 5);
    fault("lick 4294967296", 5);
    fault("hold 18446744073709551616", 5);
    fault("scoop 1 12345678901234567890123", 8);
  }

  /** Every word with one letter otherwise, one less, one more, and one too large. */
  private static void wordsAsTheyAre() {
    for (String statement : STATEMENTS) {
      String word = statement.split(" ")[0];
      String rest = statement.substring(word.length());
      for (int i = 0; i < word.length(); i++) {
        fault(word.substring(0, i) + "q" + word.substring(i + 1) + rest, 0);
        // lick is a word for itself: behind it the byte that begins none is what can't stand there.
        int place = word.substring(0, i).equals("lick") ? i : 0;
        fault(word.substring(0, i) + (char) (word.charAt(i) - 32) + word.substring(i + 1) + rest, place);
        if (!word.equals("licker")) {
          fault(word.substring(0, i) + word.substring(i + 1) + rest, 0);
        }
      }
      fault(word + "s" + rest, 0);
      fault("a" + word + rest, 0);
    }
    fault("licer 5 9", 0);
    fault("licke 5 9", 0);
    fault("lick 5 9", 7);
    fault("licker 0", 8);
  }

  private static void numbersForWords() {
    for (int i = 0; i < WORDS.length; i++) {
      String word = WORDS[i];
      fault(word + " a", word.length() + 1);
      fault(word + " " + word, word.length() + 1);
      fault(word + " ;", word.length() + 1);
      fault("5 " + word, 0);
      fault(STATEMENTS[i] + " 1".repeat(i == 2 ? 2 : 1), STATEMENTS[i].length() + (i == 2 ? 3 : 1));
      fault(STATEMENTS[i] + " hold 1", STATEMENTS[i].length() + 1);
    }
    fault("scoop 1 a", 8);
    fault("scoop a 1", 6);
    fault("scoop 1;1", 7);
    fault("licker 1 a", 9);
    fault("licker 1;1", 8);
    fault("sun 1 a", 6);
    fault("sun a 1", 4);
    fault("hold -1", 5);
    fault("hold +1", 5);
    fault("hold 1.", 6);
  }

  private static void tokensAsLongAsCanBe() {
    reads("scoop1 1", 1);
    reads("sun3", 1);
    reads("hold20;brim20;sides8", 3);
    fault("scoop11", 5);
    fault("scoop 11", 6);
    fault("sun12", 3);
    fault("scoop1 1a", 8);
    fault("hold2 0", 6);
    fault("ho ld 2", 0);
    fault("holdbrim 2", 0);
    fault("hold2brim2", 5);
    fault("lick er 1 1", 5);
    fault("li", 0);
  }

  private static void blanks() {
    reads("   hold   5   ;   brim   5   ", 2);
    reads("hold 5;brim 5", 2);
    reads("hold5;brim5", 2);
    reads(" hold5 ;brim5 ", 2);
    reads("sun 0  1   2", 1);
    fault("hold\n5", 4);
    fault("hold\t5", 4);
    fault("hold\u00a05", 4);
    fault("hold\u00005", 4);
  }

  private static void endsTooEarly() {
    fault("", 0);
    fault(" ", 1);
    for (int i = 0; i < WORDS.length; i++) {
      fault(WORDS[i], WORDS[i].length());
      fault(WORDS[i] + "   ", WORDS[i].length() + 3);
      fault(STATEMENTS[i] + ";", STATEMENTS[i].length() + 1);
      fault(STATEMENTS[i] + " ; ", STATEMENTS[i].length() + 3);
      fault(STATEMENTS[i] + ";" + "hold", STATEMENTS[i].length() + 5);
    }
    fault("scoop 1", 7);
    fault("scoop 1 ", 8);
    fault("licker 1", 8);
    fault("licker 1  ", 10);
    fault(";", 0);
    fault(" ;", 1);
    fault(";hold 5", 0);
    fault("hold 5;;brim 5", 7);
    fault("hold 5; ;brim 5", 8);
  }

  private static void everyByte() {
    for (int b = 0; b < 256; b++) {
      String letter = Character.toString((char) b);
      fault(letter, b == 32 ? 1 : 0);
      boolean digit = b >= '0' && b <= '9';
      if (b == 32) {
        reads("hold 5" + letter, 1);
      } else if (b == ';') {
        fault("hold 5" + letter, 7);
      } else if (digit) {
        // 5 and another digit: 50 and more.
        fault("hold 5" + letter, 5);
      } else {
        fault("hold 5" + letter, 6);
      }
      if (b == 32 || digit && b <= '5') {
        reads("sun 4" + (b == 32 ? "" : " ") + (digit && b == '4' ? "0" : letter), 1);
      } else {
        fault("sun 4 " + letter, b == ';' ? 7 : 6);
      }
    }
  }

  private static void places() {
    reads("sun 5 4 3 2 1 0", 1);
    reads("sun 0 1 2 3 4 5", 1);
    reads("sides 8;sun 7 6 5 4 3 2 1 0", 2);
    fault("sun 0 0", 6);
    fault("sun 0 00", 6);
    fault("sun 5 5", 6);
    fault("sun 0 1 2 3 4 5 0", 16);
    fault("sun 0 1 2 3 4 5 6", 16);
    fault("sides 8;sun 0 1 2 3 4 5 6 7 7", 28);
    fault("sun", 3);
    fault("sun;hold 1", 3);
    for (int p = 0; p < 6; p++) {
      for (int q = 0; q < 6; q++) {
        BeforeItDrips x = new BeforeItDrips();
        x.sun(63);
        due.is("each once: " + p + " " + q, Due.kerb(x, "sun " + p + " " + q), p == q ? -26 : 1);
        due.is("those alone: " + p + " " + q, x.status(9), p == q ? 63 : 1 << p | 1 << q);
      }
    }
    BeforeItDrips x = new BeforeItDrips();
    x.sun(63);
    due.is("the last sun stands", Due.kerb(x, "sun 1; sun 3"), 2);
    due.is("the last sun alone", x.status(9), 8);
  }

  private static void roomAndScoops() {
    String three = "scoop 1 1;scoop 1 1;scoop 1 1";
    reads(three, 3);
    fault(three + ";scoop 1 1", 30);
    fault(three + ";scoop 99 1", 30);
    fault(three + ";scoop", 30);
    String four = "licker 1 1;licker 1 1;licker 1 1;licker 1 1";
    reads(four, 4);
    fault(four + ";licker 1 1", 44);
    fault(four + ";licker 9 9", 44);
    fault(four + "; licker", 45);
    reads("sides 3;sides 8", 2);
    fault("scoop 0 0;sides 6", 10);
    fault("scoop 0 0;sides 9", 10);
    fault("scoop 0 0; sides", 11);
    BeforeItDrips x = new BeforeItDrips();
    x.scoop(1, 1);
    due.is("sides, with a SCOOP from ahead", Due.kerb(x, "hold 1;sides 6"), -27);
    x.scoop(1, 1);
    x.scoop(1, 1);
    due.is("no room for a fourth", Due.kerb(x, " scoop 1 1"), -21);
    due.is("SCOOPS", x.status(1), 3);
    for (int i = 0; i < 3; i++) {
      x.licker(0, 0);
    }
    due.is("room for a fourth licker", Due.kerb(x, "licker 5 1"), 1);
    due.is("no room for a fifth", Due.kerb(x, "hold 2 ; licker 5 1"), -29);
    due.is("LICKERS", x.status(2), 4);
    due.is("HOLD stays", x.status(18), 5);
    due.is("BAD", x.status(12), 3);
  }

  private static void actsThatCanBe() {
    int[] can = {0, 4, 5, 6};
    for (int act : can) {
      reads("lick " + act, 1);
    }
    String scoops = "";
    for (int there = 0; there <= 3; there++) {
      for (int act = 1; act <= 3; act++) {
        if (act <= there) {
          reads(scoops + "lick " + act, there + 1);
        } else {
          fault(scoops + "lick " + act, scoops.length() + 5);
        }
      }
      scoops += "scoop 1 9;";
    }
    fault("lick 1;scoop 1 9", 5);
    BeforeItDrips x = new BeforeItDrips();
    x.scoop(0, 0);
    due.is("an act on a SCOOP from ahead", Due.kerb(x, "lick 1"), 1);
    due.is("SECONDS", x.status(3), 1);
  }

  private static void whatComes() {
    BeforeItDrips x = new BeforeItDrips();
    x.ask(4, 3);
    x.sun(63);
    due.is("sides", Due.kerb(x, "sides 4"), 1);
    due.is("SIDES", x.status(0), 4);
    due.is("TURN 0", x.status(8), 0);
    due.is("places that aren't there go", x.status(9), 15);
    due.is("all the others", Due.kerb(x, "hold 0;brim 0;scoop 9 30;licker 3 8;sun 3;lick 5;lick 0"), 7);
    due.is("HOLD", x.status(18), 0);
    due.is("BRIM", x.status(19), 0);
    due.is("SORT", x.scoopOf(0, 0), 9);
    // Place 3 melts 9, the others 4: 21 in the first second, the 9 that are left in the next (sides 0, then side 1 the rest).
    due.is("AMOUNT", x.scoopOf(0, 1), 0);
    due.is("LOST", x.status(4), 30);
    due.is("SECONDS", x.status(3), 2);
    due.is("TURN", x.status(8), 1);
    due.is("DROPS", x.drop(-1), 2);
    due.is("the SECOND of the last", x.drop(1), 2);
    due.is("KIND", x.lickerOf(0, 0), 3);
    due.is("a", x.lickerOf(0, 1), 8);
    due.is("a licker of a kerb on a SHELF", x.show(0, 0), 1);
    due.is("says", x.says(0, 0), 8);
  }

  private static void allOrNothing() {
    String setup = "hold 3;brim 2;sun 1;scoop 7 80;licker 1 1;lick 0;lick 5";
    for (String statement : STATEMENTS) {
      if (statement.startsWith("sides")) {
        continue;
      }
      BeforeItDrips x = new BeforeItDrips();
      Due.kerb(x, setup);
      x.seed(44);
      String ahead = Calls.all(x);
      due.is("nothing of '" + statement + "'", Due.kerb(x, statement + ";lick 0;lick 8"), -20 - statement.length() - 13);
      due.holds("nothing of '" + statement + "' comes", ahead.equals(Calls.all(x)));
      due.is("'" + statement + "' alone", Due.kerb(x, statement), 1);
      due.holds("'" + statement + "' alone comes", !ahead.equals(Calls.all(x)));
    }
    BeforeItDrips y = new BeforeItDrips();
    y.sun(63);
    y.ask(4, 5);
    due.is("nothing of sides", Due.kerb(y, "sides 3;sides 9"), -34);
    due.is("SIDES stay", y.status(0), 6);
    due.is("TURN stays", y.status(8), 5);
    due.is("SUN stays", y.status(9), 63);
    // What failed was there for what stood behind it, and is gone for the next kerb.
    due.is("a scoop that came to nothing", Due.kerb(y, "scoop 1 1;lick 2"), -35);
    due.is("isn't there", Due.kerb(y, "lick 1"), -25);
    due.is("nor in the way of sides", Due.kerb(y, "sides 5"), 1);
  }

  private static void theWholeTape() {
    BeforeItDrips x = new BeforeItDrips();
    due.is("250 bytes that can't", Due.kerb(x, "hold 1;".repeat(34) + "brim 7lick 6"), -20 - 244);
    due.is("two bytes too many don't come: lick 5 is lick", Due.kerb(x, "hold 1;".repeat(34) + "brim 7; lick 5"), -270);
    due.is("they are FULL", x.status(16), 2);
    due.is("250 bytes that can stand", Due.kerb(x, "hold 1;".repeat(34) + "brim 7;sun 5"), 36);
    due.is("SUN of the last byte", x.status(9), 32);
    due.is("250 blanks", Due.kerb(x, " ".repeat(250)), -270);
    due.is("250 letters", Due.kerb(x, "a".repeat(250)), -20);
    due.is("250 digits", Due.kerb(x, "hold " + "9".repeat(245)), -25);
    due.is("a number to the end", Due.kerb(x, " ".repeat(243) + "hold 19"), 1);
    due.is("HOLD of it", x.status(18), 19);
    due.is("a word to the end", Due.kerb(x, " ".repeat(246) + "hold"), -270);
  }
}
