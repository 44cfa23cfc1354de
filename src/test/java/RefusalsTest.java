import java.util.ArrayList;
import java.util.Arrays;
import java.util.List;

/** Of every promise: what is too small and too large, what is refused, in which order, and that nothing else changes. */
public final class RefusalsTest {
  private static final Due due = new Due("RefusalsTest");
  private static final int ANY = Integer.MIN_VALUE;

  /** Two scoops, two lickers, drops, and on the shelves rows (of bytes, bytes, ints, acts) and a licker; 7 is NOTHING. */
  private static final String[] CONE = {
      "licker 5 9", "image", "licker 1 3", "scoop 5 90", "scoop 3 60", "sun 5", "ask 0 1", "ask 1 1", "act 0", "act 5", "act 1",
      "row 0 0 5", "set 0 0 4", "set 0 1 6", "set 0 4 -3", "row 1 0 3", "set 1 2 5", "row 2 2 5", "set 2 3 99", "show 3 1",
      "row 4 3 2", "set 4 0 2", "set 4 1 3", "row 5 0 40", "row 6 0 0", "feed 108", "feed 105", "feed 99", "feed 107",
      "feed 49", "seed -9"};
  private static final String[] BARE = {"row 0 0 5"};
  private static final String[] FULL = {
      "scoop 5 90", "scoop 3 60", "scoop 1 1", "licker 0 0", "licker 1 1", "licker 2 2", "licker 3 3", "show 3 3"};
  /** Twenty drops, at SECONDS 1 to 20, and a row of twenty places; no scoop is used up. */
  private static final String[] DRIPPED = {
      "ask 0 0", "ask 1 0", "sun 1", "scoop 1 99", "row 5 0 40", "done 5 20", "row 0 0 5", "row 1 2 20", "row 2 2 21"};

  /** Promise, setup, a call that may be, and of each of its numbers the least and the most (*: it has none). */
  private static final String[] RANGES = {
      "2 CONE row 0 0 1 : 0..7 0..4 0..40",
      "3 CONE set 0 0 1 : 0..7 0..4 *",
      "4 CONE copy 0 1 0 0 3 : 0..7 0..7 0..2 0..0 0..3",
      "4 CONE copy 0 1 3 2 1 : 0..7 0..7 0..4 0..2 0..1",
      "4 CONE copy 1 0 0 1 0 : 0..7 0..7 0..3 0..5 0..3",
      "4 CONE copy 6 6 0 0 0 : 0..7 0..7 0..0 0..0 0..0",
      "7 CONE show 0 0 : 0..7 -1..1",
      "7 BARE show 0 -1 : 0..7 -1..-1",
      "7 FULL show 0 0 : 0..7 -1..3",
      "8 CONE says 3 1 : 0..7 0..5",
      "9 BARE sides 4 : 3..8",
      "9 CONE sides 4 : 3..8",
      "10 BARE scoop 1 1 : 0..9 0..99",
      "10 FULL scoop 1 1 : 0..9 0..99",
      "11 CONE sun 1 : 0..63",
      "12 CONE ask 0 1 : * 0..20",
      "12 CONE ask 1 1 : * 0..20",
      "12 CONE ask 2 1 : * 1..20",
      "12 CONE ask 3 1 : * 1..999",
      "12 CONE ask 4 1 : * 0..5",
      "12 CONE ask 2 3 : 0..4 1..20",
      "13 BARE licker 1 1 : 0..5 0..9",
      "13 FULL licker 1 1 : 0..5 0..9",
      "14 CONE feed 9 : 0..255",
      "17 CONE scoopOf 0 0 : 0..1 0..2",
      "17 FULL scoopOf 0 0 : 0..2 0..2",
      "18 CONE wet 0 0 : -1..1 0..5",
      "18 FULL wet -1 0 : -1..2 0..5",
      "18 BARE wet -1 0 : -1..-1 0..5",
      "19 CONE lickerOf 0 0 : 0..1 0..1",
      "19 FULL lickerOf 0 0 : 0..3 0..1",
      "20 CONE sunny 0 : 0..5",
      "21 CONE without 1 : 0..200",
      "23 CONE run 0 1 0 : 0..1 0..200 0..3",
      "23 FULL run 0 1 0 : 0..3 0..200 0..3",
      "24 CONE would 0 : 0..1",
      "24 FULL would 0 : 0..3",
      "25 CONE plan 1 0 : 1..3 -1..0",
      "25 CONE plan 2 0 : 1..3 -1..1",
      "25 CONE plan 3 0 : 1..3 -1..2",
      "26 CONE best 1 : 0..200",
      "26 BARE best 1 : 0..200",
      "27 CONE until 0 : 0..1",
      "28 CONE spareBy 0 : 0..1",
      "29 CONE both 0 1 1 : 0..1 0..1 0..200",
      "29 FULL both 0 1 1 : 0..3 0..3 0..200",
      "30 CONE holdFor 1 : 0..200",
      "31 CONE largest 1 1 : 0..9 0..200",
      "31 FULL largest 1 1 : 0..9 0..200",
      "32 CONE order 1 0 : 0..200 -1..*",
      "32 BARE order 1 -1 : 0..200 -1..*",
      "33 CONE shade 1 : 0..200",
      "38 CONE judge 5 1 : 0..7 0..40",
      "38 CONE judge 0 1 : 0..7 0..5",
      "38 CONE judge 6 0 : 0..7 0..0",
      "39 CONE behind 5 1 0 : 0..7 0..40 0..3",
      "39 CONE behind 0 1 0 : 0..7 0..5 0..3",
      "39 CONE behind 6 0 0 : 0..7 0..0 0..3",
      "40 CONE done 5 1 : 0..7 0..40",
      "40 CONE done 6 0 : 0..7 0..0",
      "41 CONE drop 0 : -1..*",
      "42 DRIPPED went 5 2 : 0..7 2..20",
      "42 DRIPPED went 1 2 : 0..7 2..20",
      "42 DRIPPED went 2 2 : 0..7 2..20",
      "42 DRIPPED went 0 2 : 0..7 2..5",
      "43 CONE act 0 : 0..6",
      "43 BARE act 0 : 0..6",
      "44 CONE licks 0 1 : 0..1 1..60",
      "44 FULL licks 0 1 : 0..3 1..60",
      "45 CONE swap 0 1 : 0..1 0..1",
      "45 FULL swap 0 1 : 0..2 0..2",
      "46 CONE day 0 1 : 0..1 1..60",
      "46 FULL day 0 1 : 0..3 1..60"};

  /** Promise, setup, a call, what it answers; where two refusals fit, the one that its line has first. */
  private static final String[] REFUSED = {
      "3 CONE set 3 0 1 = -3", "3 CONE set 7 0 1 = -4", "3 CONE set 3 -1 1 = -3", "3 CONE set 3 99 1 = -3",
      "3 CONE set 7 99 1 = -4", "3 CONE set 6 0 1 = -2", "3 CONE set 8 99 1 = -2",
      "4 CONE copy 8 3 0 0 1 = -2", "4 CONE copy 3 8 0 0 1 = -2", "4 CONE copy 8 7 0 0 1 = -2", "4 CONE copy 7 -1 0 0 1 = -2",
      "4 CONE copy 0 3 0 0 1 = -3", "4 CONE copy 3 0 0 0 1 = -3", "4 CONE copy 3 3 0 0 1 = -3",
      "4 CONE copy 3 7 0 0 1 = -3", "4 CONE copy 7 3 0 0 1 = -3", "4 CONE copy 0 2 0 0 1 = -3", "4 CONE copy 2 0 -1 9 99 = -3",
      "4 CONE copy 7 0 0 0 1 = -4", "4 CONE copy 0 7 0 0 1 = -4", "4 CONE copy 7 7 0 0 0 = -4", "4 CONE copy 0 7 -1 9 99 = -4",
      "4 CONE copy 0 1 0 0 4 = -2", "4 CONE copy 1 0 1 0 3 = -2", "4 CONE copy 0 6 0 0 1 = -2", "4 CONE copy 6 0 0 0 1 = -2",
      "4 CONE copy 0 6 0 1 0 = -2", "4 CONE copy 6 0 1 0 0 = -2",
      "8 CONE says 0 1 = -3", "8 CONE says 3 2 = -3", "8 CONE says 3 4 = -3", "8 CONE says 7 0 = -4",
      "8 CONE says 8 6 = -2", "8 CONE says 0 6 = -2", "8 CONE says 7 6 = -2", "8 CONE says 7 -1 = -2",
      "9 CONE sides 6 = -5", "9 CONE sides 2 = -2", "9 CONE sides 9 = -2",
      "10 FULL scoop 0 0 = -6", "10 FULL scoop 10 0 = -2", "10 FULL scoop 0 100 = -2",
      "13 FULL licker 0 0 = -6", "13 FULL licker 6 0 = -2", "13 FULL licker 0 10 = -2",
      "17 BARE scoopOf 0 0 = -2", "18 BARE wet 0 0 = -2", "19 BARE lickerOf 0 0 = -2",
      "23 BARE run 0 1 0 = -2", "24 BARE would 0 = -2", "26 BARE best 0 = -5", "26 BARE best 200 = -5",
      "26 BARE best 201 = -2", "26 BARE best -1 = -2", "27 BARE until 0 = -2", "28 BARE spareBy 0 = -2",
      "29 BARE both 0 0 0 = -2", "31 FULL largest 0 0 = -6", "31 FULL largest 9 200 = -6", "31 FULL largest 10 0 = -2",
      "31 FULL largest 0 201 = -2", "32 CONE order 1 2 = -5", "32 BARE order 1 0 = -5", "32 FULL order 1 3 = -5",
      "32 CONE order 201 2 = -2", "32 CONE order -1 2 = -2", "32 BARE order 201 0 = -2", "32 CONE order 0 -2 = -2",
      "36 BARE largestScoop = -5",
      "38 CONE judge 3 1 = -3", "38 CONE judge 7 1 = -4", "38 CONE judge 3 41 = -2", "38 CONE judge 7 -1 = -2",
      "38 CONE judge 0 6 = -2", "38 CONE judge 6 1 = -2", "38 CONE judge 3 0 = -3", "38 CONE judge 7 0 = -4",
      "39 CONE behind 3 1 0 = -3", "39 CONE behind 7 1 0 = -4", "39 CONE behind 3 1 4 = -2", "39 CONE behind 7 1 -1 = -2",
      "39 CONE behind 3 41 0 = -2", "39 CONE behind 7 -1 0 = -2", "39 CONE behind 0 6 0 = -2", "39 CONE behind 4 3 0 = -2",
      "39 CONE behind 4 2 0 = -5", "39 CONE behind 0 5 0 = -5", "39 CONE behind 4 2 4 = -2",
      "40 CONE done 3 1 = -3", "40 CONE done 7 1 = -4", "40 CONE done 3 41 = -2", "40 CONE done 7 -1 = -2",
      "40 CONE done 0 6 = -2", "40 CONE done 4 3 = -2", "40 CONE done 4 2 = -5", "40 CONE done 0 5 = -5",
      "41 BARE drop 0 = -5", "41 CONE drop 3 = -5", "41 DRIPPED drop 20 = -5", "41 BARE drop -2 = -2",
      "42 CONE went 3 2 = -3", "42 CONE went 7 2 = -4", "42 CONE went 3 1 = -2", "42 CONE went 7 21 = -2",
      "42 CONE went 0 6 = -2", "42 BARE went 0 6 = -2", "42 BARE went 0 2 = -5", "42 CONE went 0 4 = -5",
      "42 CONE went 4 3 = -2",
      "43 CONE act 3 = -5", "43 BARE act 1 = -5", "43 BARE act 2 = -5", "43 BARE act 3 = -5", "43 BARE act 7 = -2",
      "44 BARE licks 0 1 = -2", "45 BARE swap 0 0 = -2", "46 BARE day 0 1 = -2", "50 BARE back = -5"};

  /** Calls that may look as if they were refused, but aren't. */
  private static final String[] NOT_REFUSED = {
      "5 CONE element 0 5 = 0", "5 CONE element 0 -1 = 0", "5 CONE element 3 0 = 0", "5 CONE element 7 0 = 0",
      "5 CONE element 8 0 = 0", "5 CONE element -1 0 = 0", "5 CONE element 6 0 = 0", "5 CONE element 2147483647 -2147483648 = 0",
      "6 CONE holds 7 = -1", "6 CONE holds 8 = -1", "6 CONE holds -1 = -1", "6 CONE holds -2147483648 = -1",
      "15 BARE wipe = 0", "22 BARE spare = 200", "27 FULL until 1 = -1", "30 DRIPPED holdFor 200 = -1", "31 FULL status 22 = -1",
      "32 BARE order 200 -1 = 0", "34 BARE gives = -1", "37 BARE melted = -1", "38 CONE judge 5 40 = -1",
      "38 CONE judge 6 0 = -1", "41 BARE drop -1 = 0", "45 CONE swap 1 1 = 0", "47 BARE anew = 0", "51 CONE status -1 = -1",
      "51 CONE status 22 = -1", "51 CONE status 2147483647 = -1", "51 CONE status -2147483648 = -1"};

  /** Of a thought, nothing is changed. */
  private static final List<String> THOUGHTS = List.of("says", "scoopOf", "wet", "lickerOf", "sunny", "without", "spare", "run",
      "would", "plan", "best", "until", "spareBy", "both", "holdFor", "largest", "order", "shade", "gives", "wettest",
      "largestScoop", "melted", "judge", "behind", "drop", "went", "element", "holds", "status");

  public static void main(String[] args) {
    for (String line : RANGES) {
      range(line);
    }
    for (String line : REFUSED) {
      String[] parts = line.split(" = ");
      one(parts[0], Long.parseLong(parts[1]));
    }
    for (String line : NOT_REFUSED) {
      String[] parts = line.split(" = ");
      one(parts[0], Long.parseLong(parts[1]));
    }
    fullTape();
    kerbsThatAreRefused();
    nothingIsKeptTwice();
    due.end();
  }

  private static BeforeItDrips setup(String name) {
    switch (name) {
      case "CONE": return Calls.made(CONE);
      case "BARE": return Calls.made(BARE);
      case "FULL": return Calls.made(FULL);
      default: return Calls.made(DRIPPED);
    }
  }

  /** The call, told behind its promise and setup: its answer (ANY: none that is BAD), and what is otherwise then. */
  private static void one(String told, long want) {
    String[] words = told.split(" ", 3);
    BeforeItDrips x = setup(words[1]);
    String ahead = Calls.all(x);
    int[] refused = Calls.refusals(x);
    long got = Calls.answer(x, words[2]);
    if (want == ANY) {
      due.holds(told + " may be", got != -2);
    } else {
      due.is(told, got, want);
    }
    boolean isRefused = got <= -2 && !words[2].startsWith("e");
    if (isRefused) {
      refused[(int) (-2 - got)]++;
    }
    due.holds(told + ": how many refusals there are", Arrays.equals(refused, Calls.refusals(x)));
    if (isRefused || THOUGHTS.contains(words[2].split(" ")[0])) {
      due.holds(told + ": nothing changes", ahead.equals(Calls.all(x)));
      tapeAndImageStay(told, x, setup(words[1]));
    }
  }

  /** What an object doesn't tell of itself: the bytes on THE TAPE, and what is kept. */
  private static void tapeAndImageStay(String told, BeforeItDrips x, BeforeItDrips twin) {
    due.is(told + ": THE TAPE stays", x.kerb(), twin.kerb());
    due.is(told + ": what is kept stays", x.back(), twin.back());
    due.holds(told + ": what is kept stays as it was", Calls.all(x).equals(Calls.all(twin)));
  }

  private static void range(String line) {
    String[] parts = line.split(" : ");
    String[] words = parts[0].split(" ");
    String[] ranges = parts[1].split(" ");
    one(parts[0], ANY);
    for (int i = 0; i < ranges.length; i++) {
      if (ranges[i].equals("*")) {
        continue;
      }
      String[] ends = ranges[i].split("\\.\\.");
      long least = Long.parseLong(ends[0]);
      one(with(words, i + 3, least), ANY);
      one(with(words, i + 3, least - 1), -2);
      one(with(words, i + 3, Integer.MIN_VALUE), -2);
      if (!ends[1].equals("*")) {
        long most = Long.parseLong(ends[1]);
        one(with(words, i + 3, most), ANY);
        one(with(words, i + 3, most + 1), -2);
        one(with(words, i + 3, Integer.MAX_VALUE), -2);
      }
    }
  }

  private static String with(String[] words, int at, long v) {
    List<String> call = new ArrayList<>(List.of(words));
    call.set(at, Long.toString(v));
    return String.join(" ", call);
  }

  private static void fullTape() {
    BeforeItDrips x = new BeforeItDrips();
    for (int i = 1; i < 250; i++) {
      x.feed(32);
    }
    due.is("14: the last byte that there is room for", x.feed(59), 250);
    due.is("14: FULL", x.feed(59), -6);
    due.is("14: BAD ahead of FULL", x.feed(256), -2);
    due.is("14: BAD ahead of FULL, below", x.feed(-1), -2);
    due.is("14: the size stays", x.status(10), 250);
    due.is("14: one FULL", x.status(16), 1);
    due.is("16: the bytes stay as they were", x.kerb(), -20 - 249);
    due.is("14: there is room again", x.feed(32), 1);
  }

  private static void kerbsThatAreRefused() {
    String[] texts = {"", "  ", "hold", "hold 1;", "sides 5", "scoop 1 1;scoop 1 1", "licker 9 9", "lick 3", "sun 5 5", "x", "lick 0; lick 0; y"};
    for (String text : texts) {
      BeforeItDrips x = Calls.made(CONE);
      x.wipe();
      String ahead = Calls.all(x);
      int[] refused = Calls.refusals(x);
      Due.feed(x, text);
      due.holds("16: '" + text + "' is refused", x.kerb() <= -20);
      refused[0]++;
      due.holds("16: '" + text + "' is one BAD", Arrays.equals(refused, Calls.refusals(x)));
      due.holds("16: '" + text + "': nothing comes", ahead.equals(Calls.all(x)));
      x.back();
      BeforeItDrips twin = Calls.made(CONE);
      twin.wipe();
      twin.back();
      due.holds("16: '" + text + "': what is kept stays", Calls.all(x).equals(Calls.all(twin)));
    }
  }

  private static void nothingIsKeptTwice() {
    BeforeItDrips x = new BeforeItDrips();
    for (int i = 1; i <= 3; i++) {
      due.is("50: STUCK, nothing was kept", x.back(), -5);
      due.is("50: how many were STUCK", x.status(15), i);
    }
    x.image();
    due.is("50: it was", x.back(), 1);
    due.is("50: it still is", x.back(), 1);
    due.is("50: REFUSALS go on", x.status(15), 3);
  }
}
