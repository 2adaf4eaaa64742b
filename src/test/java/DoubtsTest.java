/** Promises 26 to 30: hours alike, odd shops, sales that cannot be, doubted ones, what a sale moves. */
public final class DoubtsTest {
  private static final long LEAST = Long.MIN_VALUE;

  public static void main(String[] args) {
    alike();
    chances();
    odd();
    cannotOutOfTime();
    cannotFewest();
    cannotFull();
    moves();
    movesByReturns();
    movesByPlaces();
    Due.close();
  }

  private static MostSold shops(int n) {
    MostSold x = new MostSold();
    x.title(0);
    x.thing(0, 0, 9);
    for (int i = 0; i < n; i++) x.shop(0, 1, 0, 51);
    return x;
  }

  private static void alike() {
    MostSold x = shops(3);
    x.sale(0, 0, 5, 1, 1, 0, 5);
    x.sale(0, 0, 5, 25, 1, 0, 5);
    x.sale(0, 0, 5, 2, 1, 0, 5);
    x.sale(0, 0, 5, 3, 1, 1, 5);
    x.sale(0, 0, 5, 4, 1, 2, 5);
    x.sale(0, 0, 5, 5, 1, 3, 5);
    x.sale(0, 0, 4, 6, 1, 0, 5);
    x.sale(0, 0, 5, 7, 1, 0, 6);
    x.sale(1, 0, 5, 167, 1, 0, 5);
    x.sale(1, 0, 5, 145, 1, 0, 5);
    Due.is("n: hours 1, 2, 7", x.alike(0, 1, 5, 0), 3);
    Due.is("m: hours 23, 1", x.alike(0, 1, 5, 1), 2);
    Due.is("k: hour 1", x.alike(0, 1, 5, 2), 1);
    Due.is("the other way", x.alike(1, 0, 5, 0), 2);
    // 1 - C(21, 2) / C(24, 2) = 66 / 276
    Due.is("chance", x.alike(0, 1, 5, 3), 239130);
    Due.is("chance the other way", x.alike(1, 0, 5, 3), 239130);
    Due.rules(x, "l=0@5;c=140@5");
    Due.is("n of those that count", x.alike(0, 1, 5, 0), 2);
    Due.is("m of those that count", x.alike(0, 1, 5, 1), 0);
    Due.is("none alike is sure", x.alike(0, 1, 5, 3), 1000000);
    x.wipe();
    x.asOf(5);
    Due.is("n as of 5", x.alike(0, 2, 5, 0), 2);
    int[][] bad = {{0, 0, 5, 0}, {0, 3, 5, 0}, {3, 0, 5, 0}, {-1, 0, 5, 0}, {0, 1, 52, 0}, {0, 1, -1, 0}, {0, 1, 5, -1}, {0, 1, 5, 4}};
    for (int[] b : bad) Due.is("bad alike", x.alike(b[0], b[1], b[2], b[3]), -2);
  }

  private static int chance(int n, int m, int k) {
    MostSold x = shops(2);
    for (int i = 0; i < n; i++) x.sale(0, 0, 5, i, 1, 0, 5);
    for (int i = 0; i < m; i++) x.sale(1, 0, 5, n - k + i, 1, 0, 5);
    return x.alike(0, 1, 5, 3);
  }

  private static void chances() {
    Due.is("24, 24, 24", chance(24, 24, 24), 1000000);
    Due.is("24, 1, 1", chance(24, 1, 1), 1000000);
    Due.is("1, 1, 1", chance(1, 1, 1), 41666);
    Due.is("2, 2, 1: 1 - 231 / 276", chance(2, 2, 1), 163043);
    Due.is("12, 12, 12: 1 / 2704156", chance(12, 12, 12), 0);
    Due.is("12, 12, 11: 145 / 2704156", chance(12, 12, 11), 53);
    Due.is("3, 3, 3: 1 / 2024", chance(3, 3, 3), 494);
    Due.is("3, 3, 2: 64 / 2024", chance(3, 3, 2), 31620);
    Due.is("20, 20, 16: cannot be fewer", chance(20, 20, 16), 1000000);
    Due.is("20, 20, 17: 5781 / 10626", chance(20, 20, 17), 544042);
  }

  private static void odd() {
    MostSold x = shops(16);
    Due.is("none", x.odd(5), -1);
    x.sale(15, 0, 5, 1, 1, 0, 5);
    Due.is("one alone", x.odd(5), -1);
    x.sale(3, 0, 5, 2, 1, 0, 5);
    Due.is("nothing alike, but the only ones", x.odd(5), 315);
    x.sale(2, 0, 5, 2, 1, 0, 5);
    Due.is("alike", x.odd(5), 203);
    x.sale(14, 0, 5, 1, 1, 0, 5);
    Due.is("of like ones the least first", x.odd(5), 203);
    x.sale(9, 0, 5, 26, 1, 0, 5);
    Due.is("of like ones the least second", x.odd(5), 203);
    x.sale(14, 0, 5, 8, 1, 0, 5);
    x.sale(15, 0, 5, 32, 1, 0, 5);
    Due.is("less chance", x.odd(5), 1415);
    x.sale(0, 0, 5, 2, 1, 0, 5);
    x.sale(0, 0, 5, 9, 1, 0, 5);
    x.sale(9, 0, 5, 9, 1, 0, 5);
    Due.is("of like ones the least first of all", x.odd(5), 9);
    Due.rules(x, "c=8@5");
    Due.is("of those that count", x.odd(5), 2);
    Due.is("bad", x.odd(52), -2);
    Due.is("bad", x.odd(-1), -2);
  }

  private static void cannotOutOfTime() {
    MostSold x = new MostSold();
    x.title(5);
    x.thing(0, 0, 0);
    x.thing(0, 0, 1000);
    x.shop(0, 1, 4, 8);
    Due.is("nothing sold of none made", x.cannot(0), 0);
    int[] weeks = {3, 4, 5, 8, 9, 9, 9};
    int[] sorts = {0, 2, 0, 2, 0, 1, 3};
    int[] due = {1, 1, 0, 0, 1, 0, 0};
    for (int i = 0; i < 7; i++) x.sale(0, 1, weeks[i], 0, 1, sorts[i], weeks[i]);
    Due.is("out of time", x.cannot(1), 3);
    for (int i = 0; i < 7; i++) Due.is("doubted " + i, x.doubted(i), due[i]);
    Due.is("another thing", x.cannot(0), 0);
    x.strike(0, 3);
    Due.is("struck", x.cannot(1), 2);
    Due.is("struck, not doubted", x.doubted(0), 0);
    x.asOf(8);
    Due.is("as of 8", x.cannot(1), 1);
    Due.is("not told yet", x.doubted(4), 0);
    Due.is("bad", x.cannot(2), -2);
    Due.is("bad", x.cannot(-1), -2);
    Due.is("bad", x.doubted(7), -2);
    Due.is("bad", x.doubted(-1), -2);
  }

  private static void fewest(int made, int[] many, int... doubted) {
    MostSold x = new MostSold();
    x.title(0);
    x.thing(0, 0, made);
    x.thing(0, 0, 0);
    x.shop(0, 1, 0, 51);
    int bits = 0;
    for (int i : doubted) bits |= 1 << i;
    for (int i = 0; i < many.length; i++) {
      x.sale(0, 1, 5, 0, 1, 0, 5);
      x.sale(0, 0, 5, 0, many[i], i % 2 * 2, 5);
    }
    String told = java.util.Arrays.toString(many) + " of " + made;
    Due.is("cannot " + told, x.cannot(0), doubted.length);
    for (int i = 0; i < many.length; i++) Due.is("doubted " + i + " of " + told, x.doubted(2 * i + 1), bits >> i & 1);
  }

  private static void cannotFewest() {
    fewest(20, new int[] {5, 15});
    fewest(20, new int[] {5, 16}, 0);
    fewest(20, new int[] {16, 5}, 1);
    fewest(10, new int[] {5, 16}, 1);
    fewest(0, new int[] {5, 16}, 0, 1);
    fewest(0, new int[] {100000}, 0);
    fewest(100000, new int[] {100000});
    fewest(99999, new int[] {100000, 1}, 0);
    fewest(20, new int[] {9, 9, 9}, 0);
    fewest(20, new int[] {9, 8, 8}, 1);
    fewest(10, new int[] {6, 5, 5, 4}, 1, 2);
    fewest(10, new int[] {4, 6, 5, 5}, 0, 1);
    fewest(10, new int[] {5, 5, 6, 4}, 0, 1);
    fewest(7, new int[] {1, 1, 1, 1, 1, 1, 1, 1, 1, 1, 1, 1}, 0, 1, 2, 3, 4);
    fewest(0, new int[] {1, 2, 3, 4, 5, 6, 7, 8, 9, 10, 11, 12}, 0, 1, 2, 3, 4, 5, 6, 7, 8, 9, 10, 11);
    fewest(66, new int[] {1, 2, 3, 4, 5, 6, 7, 8, 9, 10, 11, 12}, 11);
    fewest(55, new int[] {1, 2, 3, 4, 5, 6, 7, 8, 9, 10, 11, 12}, 10, 11);
  }

  private static void cannotFull() {
    MostSold x = new MostSold();
    x.title(1);
    x.thing(0, 0, 1000);
    x.thing(0, 0, 1000);
    x.shop(0, 1, 0, 51);
    for (int i = 0; i < 12; i++) x.sale(0, 0, 5, 0, 1, 0, 5);
    for (int i = 0; i < 12; i++) x.sale(0, 0, 0, 0, 1, 0, 5);
    Due.is("twelve others, twelve out of time", x.cannot(0), 12);
    Due.is("one out of time", x.doubted(12), 1);
    Due.is("one of the others", x.doubted(11), 0);
    x.sale(0, 0, 5, 0, 1, 2, 5);
    x.sale(0, 0, 5, 0, 1, 1, 5);
    x.sale(0, 1, 5, 0, 1, 0, 5);
    Due.is("thirteen others, though no more than made", x.cannot(0), -4);
    Due.is("of one out of time", x.doubted(12), -4);
    Due.is("of one that was heard", x.doubted(25), -4);
    Due.is("of another thing", x.doubted(26), 0);
    x.strike(24, 5);
    Due.is("twelve again", x.cannot(0), 12);
    Due.is("a struck one", x.doubted(24), 0);
  }

  private static void moves() {
    MostSold x = new MostSold();
    x.title(0);
    x.title(0);
    x.thing(0, 0, 9);
    x.thing(1, 0, 9);
    x.shop(0, 1, 0, 51);
    x.shop(0, 1, 0, 51);
    Due.is("moves(0)", x.moves(0), LEAST + 2);
    Due.is("moves(-1)", x.moves(-1), LEAST + 2);
    x.sale(0, 0, 51, 0, 5, 0, 51);
    Due.is("none without it", x.moves(0), 1L << 51);
    x.sale(0, 0, 51, 0, 5, 0, 51);
    Due.is("as it would be", x.moves(0), 0);
    x.sale(0, 1, 51, 0, 7, 0, 51);
    Due.is("second without it", x.moves(0), 1L << 51);
    Due.is("the list is as it was", x.line(51, 51, 0), 0);
    x.asOf(50);
    Due.is("not told", x.moves(0), LEAST + 3);
    x.asOf(51);
    x.strike(0, 51);
    Due.is("struck", x.moves(0), LEAST + 3);
    Due.is("moves(3)", x.moves(3), LEAST + 2);
  }

  private static void movesByReturns() {
    MostSold x = new MostSold();
    x.title(0);
    x.thing(0, 0, 9);
    x.shop(0, 1, 0, 51);
    for (int w = 0; w < 10; w++) x.sale(0, 0, w, 0, 5, 0, w);
    x.sale(0, 0, 7, 0, 5, 3, 7);
    Due.is("in its own week", x.moves(10), 1L << 7);
    Due.rules(x, "r=1@1;r=4@2;r=2@4;r=3@5;r=1@6");
    Due.is("in weeks 3 (r 4), 6 (r 1), not 5 (r 3) or 7", x.moves(10), 1L << 3 | 1L << 6);
    Due.is("a sale, in its own week alone", x.moves(6), 0);
    Due.is("a sale of a week when nothing comes back", x.moves(5), 1L << 5);
  }

  private static void movesByPlaces() {
    MostSold x = new MostSold();
    x.title(0);
    x.title(0);
    x.title(0);
    for (int t = 0; t < 3; t++) x.thing(t, 0, 9);
    x.shop(0, 1, 0, 51);
    x.shop(1, 1, 0, 51);
    x.shop(0, 1, 0, 51);
    x.sale(0, 0, 5, 0, 5, 0, 5);
    x.sale(1, 1, 5, 0, 5, 0, 5);
    x.sale(1, 1, 5, 0, 4, 0, 5);
    x.sale(2, 2, 5, 0, 1, 3, 5);
    Due.is("a sale that makes a shop tell: without it 5 are foretold", x.moves(3), 1L << 5);
    Due.rules(x, "t=2");
    x.strike(3, 5);
    x.empty(2, 5, 5);
    Due.is("a place that would be shared", x.moves(2), 1L << 5);
    Due.rules(x, "t=0");
    Due.is("the lesser first", x.moves(2), 1L << 5);
    Due.rules(x, "t=2;k1=0");
    Due.is("not listed anyway", x.moves(2), 0);
  }
}
