/** Cones that are wet as it is wanted: scoops of sort 1, which melt in the sun alone, one at a side in a second. */
final class Poured {
  private Poured() {
  }

  private static int sum(int[] row) {
    int all = 0;
    for (int v : row) {
      all += v;
    }
    return all;
  }

  /** Seconds of act 0 in which the scoops with something left melt as much as told at each side; TURN is 0. */
  static void pour(BeforeItDrips x, int... row) {
    for (int level = 1; level <= 20; level++) {
      int places = 0;
      for (int side = 0; side < row.length; side++) {
        places |= row[side] >= level ? 1 << side : 0;
      }
      if (places != 0) {
        x.sun(places);
        x.act(0);
      }
    }
    x.sun(0);
  }

  /** The first row is the rim's, the others the scoops' from below; HOLD and BRIM are 20, no scoop has anything left. */
  static BeforeItDrips cone(int[]... rows) {
    BeforeItDrips x = new BeforeItDrips();
    x.sides(rows[0].length);
    x.ask(1, 20);
    x.ask(0, 0);
    x.scoop(1, sum(rows[0]) + sum(rows[1]));
    pour(x, rows[0]);
    x.ask(0, 20);
    pour(x, rows[1]);
    for (int i = 2; i < rows.length; i++) {
      x.scoop(1, sum(rows[i]));
      pour(x, rows[i]);
    }
    return x;
  }
}
