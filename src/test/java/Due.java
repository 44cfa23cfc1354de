/** Counts the answers that are not as due, and prints them. */
final class Due {
  private final String test;
  private int asked = 0;
  private int wrong = 0;

  Due(String test) {
    this.test = test;
  }

  void is(String call, long got, long want) {
    asked++;
    if (got != want) {
      wrong++;
      if (wrong <= 40) {
        System.out.println(test + ": " + call + " answered " + got + ", due is " + want);
      }
    }
  }

  void holds(String what, boolean it) {
    is(what, it ? 1 : 0, 1);
  }

  /** Ends the program: with exit code 1 if an answer was wrong, or if there were none at all. */
  void end() {
    System.out.println(test + ": " + asked + " answers, " + wrong + " wrong");
    System.exit(wrong == 0 && asked > 0 ? 0 : 1);
  }

  static void feed(BeforeItDrips x, String text) {
    for (int i = 0; i < text.length(); i++) {
      x.feed(text.charAt(i));
    }
  }

  static int kerb(BeforeItDrips x, String text) {
    feed(x, text);
    return x.kerb();
  }
}
