/** Promises 33 to 40: sheets, findings, writing a list, counts, the digest. */
public final class SheetsTest {
  private static final long LEAST = Long.MIN_VALUE;

  public static void main(String[] args) {
    sheet();
    lose();
    putAndGet();
    moulds();
    copy();
    copyOntoItself();
    copyBounds();
    write();
    counts();
    digestOfNothing();
    digest();
    Due.close();
  }

  private static void sheet() {
    MostSold x = new MostSold();
    int[][] bad = {{-1, 0, 0}, {4, 0, 0}, {0, -1, 0}, {0, 4, 0}, {0, 0, 121}, {4, 0, -1}, {0, 4, -1}};
    for (int[] b : bad) Due.is("bad sheet", x.sheet(b[0], b[1], b[2]), -2);
    Due.is("no finding yet", x.count(8), 0);
    Due.is("size", x.sheet(0, 0, -1), -15);
    Due.is("finding", x.count(8), 5);
    Due.is("least size", x.sheet(0, 0, Integer.MIN_VALUE), -15);
    Due.is("still lost", x.lose(0), -11);
    Due.is("none", x.sheet(0, 0, 0), 0);
    Due.is("most", x.sheet(3, 3, 120), 120);
    Due.is("the last item", x.put(3, 3, 119, 7), 1);
    Due.is("a new row", x.sheet(3, 3, 120), 120);
    Due.is("is all 0", x.get(3, 3, 119), 0);
    x.put(3, 3, 0, 7);
    x.sheet(3, 3, 120);
    Due.is("the first item too", x.get(3, 3, 0), 0);
    x.put(3, 3, 0, 7);
    Due.is("refused", x.sheet(3, 2, -5), -15);
    Due.is("as it was", x.get(3, 3, 0), 7);
  }

  private static void lose() {
    MostSold x = new MostSold();
    Due.is("lose(-1)", x.lose(-1), -2);
    Due.is("lose(4)", x.lose(4), -2);
    Due.is("lost", x.lose(1), -11);
    x.sheet(1, 2, 9);
    Due.is("lose", x.lose(1), 9);
    Due.is("lost again", x.lose(1), -11);
    x.sheet(1, 2, 0);
    Due.is("lose an empty one", x.lose(1), 0);
  }

  private static void putAndGet() {
    MostSold x = new MostSold();
    Due.is("put lost", x.put(0, 0, 0, 1), -11);
    Due.is("get lost", x.get(0, 0, 0), LEAST);
    Due.is("finding", x.count(8), 1);
    x.sheet(0, 1, 3);
    int[][] bad = {{-1, 0}, {4, 0}, {0, -1}, {0, 4}};
    for (int[] b : bad) {
      Due.is("bad put", x.put(b[0], b[1], 0, 0), -2);
      Due.is("bad get", x.get(b[0], b[1], 0), LEAST);
    }
    Due.is("finding as it was", x.count(8), 1);
    Due.is("cast ahead of index", x.put(0, 2, 9, 0), -13);
    Due.is("finding 3", x.count(8), 3);
    Due.is("index", x.put(0, 1, 3, 0), -12);
    Due.is("finding 2", x.count(8), 2);
    Due.is("cast at get", x.get(0, 0, 0), LEAST);
    Due.is("finding 3 again", x.count(8), 3);
    Due.is("index at get", x.get(0, 1, -1), LEAST);
    Due.is("finding 2 again", x.count(8), 2);
    Due.is("index below 0", x.put(0, 1, -1, 0), -12);
    Due.is("index far", x.put(0, 1, Integer.MAX_VALUE, 0), -12);
    Due.is("put", x.put(0, 1, 2, 5), 1);
    Due.is("get", x.get(0, 1, 2), 5);
    Due.is("the next one", x.get(0, 1, 1), 0);
    Due.is("finding is of the latest, not of what went well", x.count(8), 2);
  }

  private static void moulds() {
    MostSold x = new MostSold();
    long v = 0x123456789ABCDEF0L;
    long[] due = {(byte) 0xF0, (short) 0xDEF0, (int) 0x9ABCDEF0, v};
    for (int mould = 0; mould < 4; mould++) {
      x.sheet(mould, mould, 2);
      x.put(mould, mould, 1, v);
      Due.is("lowest bits of mould " + mould, x.get(mould, mould, 1), due[mould]);
      x.put(mould, mould, 1, -1);
      Due.is("-1 of mould " + mould, x.get(mould, mould, 1), -1);
      x.put(mould, mould, 1, 127);
      Due.is("127 of mould " + mould, x.get(mould, mould, 1), 127);
    }
    x.put(0, 0, 0, 128);
    Due.is("128 as a byte", x.get(0, 0, 0), -128);
    x.put(3, 3, 0, LEAST);
    Due.is("the least long", x.get(3, 3, 0), LEAST);
  }

  private static MostSold filled() {
    MostSold x = new MostSold();
    x.sheet(0, 2, 6);
    x.sheet(1, 2, 4);
    for (int i = 0; i < 6; i++) x.put(0, 2, i, 10 + i);
    for (int i = 0; i < 4; i++) x.put(1, 2, i, 20 + i);
    return x;
  }

  private static void items(String what, MostSold x, int s, int... due) {
    for (int i = 0; i < due.length; i++) Due.is(what + ", item " + i, x.get(s, 2, i), due[i]);
  }

  private static void copy() {
    MostSold x = filled();
    Due.is("copy", x.copy(0, 3, 1, 1, 2), 1);
    items("to", x, 1, 20, 13, 14, 23);
    items("from", x, 0, 10, 11, 12, 13, 14, 15);
    Due.is("none", x.copy(0, 6, 1, 4, 0), 1);
    Due.is("all", x.copy(1, 0, 0, 0, 4), 1);
    items("all", x, 0, 20, 13, 14, 23, 14, 15);
    x.sheet(2, 3, 4);
    Due.is("store", x.copy(0, 0, 2, 0, 1), -14);
    Due.is("finding 4", x.count(8), 4);
    Due.is("store ahead of index", x.copy(0, -1, 2, 0, 1), -14);
    Due.is("null, to", x.copy(0, 0, 3, 0, 1), -11);
    Due.is("null, from", x.copy(3, 0, 0, 0, 1), -11);
    Due.is("null, both", x.copy(3, 0, 3, 0, 0), -11);
    Due.is("bad, to", x.copy(3, 0, 4, 0, 1), -2);
    Due.is("bad, from", x.copy(-1, 0, 3, 0, 1), -2);
    Due.is("finding 1", x.count(8), 1);
  }

  private static void copyOntoItself() {
    MostSold x = filled();
    Due.is("up", x.copy(0, 0, 0, 1, 5), 1);
    items("up", x, 0, 10, 10, 11, 12, 13, 14);
    x = filled();
    Due.is("down", x.copy(0, 1, 0, 0, 5), 1);
    items("down", x, 0, 11, 12, 13, 14, 15, 15);
  }

  private static void copyBounds() {
    MostSold x = filled();
    int far = Integer.MAX_VALUE;
    int[][] bad = {
      {-1, 0, 1}, {0, -1, 1}, {0, 0, -1}, {6, 0, 1}, {0, 4, 1}, {0, 0, 5}, {3, 0, 4}, {0, 1, 4}, {7, 0, 0}, {0, 5, 0},
      {far, 0, far}, {0, far, far}, {0, 0, far}, {far, far, 1}, {Integer.MIN_VALUE, 0, far}, {-1, -1, -1}};
    for (int[] b : bad) Due.is("copy from " + b[0] + " to " + b[1] + ", " + b[2], x.copy(0, b[0], 1, b[1], b[2]), -12);
    items("as it was", x, 1, 20, 21, 22, 23);
    Due.is("finding 2", x.count(8), 2);
  }

  private static void write() {
    MostSold x = new MostSold();
    x.title(0);
    x.title(0);
    x.title(6);
    for (int t = 0; t < 3; t++) x.thing(t, 0, 9);
    x.shop(0, 1, 0, 51);
    x.sale(0, 0, 5, 0, 3, 0, 5);
    x.sale(0, 1, 5, 0, 400, 0, 5);
    x.sale(0, 2, 5, 0, 400, 0, 5);
    Due.is("lost", x.write(0, 5), -11);
    Due.is("bad sheet", x.write(4, 5), -2);
    Due.is("bad sheet", x.write(-1, 5), -2);
    Due.is("bad week", x.write(0, 52), -2);
    Due.is("bad week", x.write(0, -1), -2);
    x.sheet(0, 2, 6);
    for (int i = 0; i < 6; i++) x.put(0, 2, i, 77);
    Due.is("two titles", x.write(0, 5), 4);
    items("written", x, 0, 1, 40000, 0, 300, 77, 77);
    x.sheet(0, 2, 3);
    Due.is("as many as there are", x.write(0, 5), 3);
    items("written", x, 0, 1, 40000, 0);
    x.sheet(0, 2, 0);
    Due.is("no items", x.write(0, 5), 0);
    x.sheet(0, 2, 4);
    Due.is("an empty list", x.write(0, 6), 0);
    x.sheet(1, 1, 4);
    Due.is("shorts", x.write(1, 5), 4);
    Due.is("40000 as a short", x.get(1, 1, 1), (short) 40000);
    x.sheet(2, 0, 2);
    Due.is("bytes", x.write(2, 5), 2);
    Due.is("40000 as a byte", x.get(2, 0, 1), (byte) 40000);
    Due.rules(x, "k0=50@5");
    x.write(0, 5);
    items("by its own rules", x, 0, 1, 20000, 0, 150);
  }

  private static void counts() {
    MostSold x = new MostSold();
    Due.is("count(-1)", x.count(-1), -2);
    Due.is("count(9)", x.count(9), -2);
    x.title(0);
    x.title(0);
    for (int i = 0; i < 3; i++) x.thing(0, 0, 0);
    for (int i = 0; i < 4; i++) x.shop(0, 1, 0, 51);
    for (int i = 0; i < 5; i++) x.sale(0, 0, 0, 0, 1, 0, i);
    for (int i = 0; i < 6; i++) x.empty(0, i, 50);
    for (int i = 0; i < 7; i++) x.type('h');
    x.asOf(2);
    x.strike(1, 2);
    int[] due = {2, 3, 4, 5, 2, 2, 7, 6, 0};
    for (int what = 0; what < 9; what++) Due.is("count(" + what + ")", x.count(what), due[what]);
  }

  private static void digestOfNothing() {
    long h = 17;
    int[] counts = {0, 0, 0, 0, 0, 51, 0, 0};
    for (int c : counts) h = 31 * h + c;
    h = 31 * h + 0;
    for (int w = 0; w < 11; w++) h = 31 * h + 0;
    Due.is("digest of nothing", new MostSold().digest(), h);
  }

  private static void digest() {
    MostSold x = new MostSold();
    x.title(0);
    x.title(0);
    x.thing(0, 0, 9);
    x.thing(1, 0, 9);
    x.shop(0, 1, 0, 51);
    x.sale(0, 0, 5, 0, 3, 0, 5);
    x.sale(0, 1, 5, 0, 4, 0, 5);
    x.sale(0, 1, 50, 0, 100000, 0, 50);
    x.sale(0, 1, 51, 0, 5, 0, 51);
    x.sale(0, 1, 4, 0, 5, 0, 51);
    x.empty(0, 7, 7);
    Due.rules(x, "k0=500@50");
    x.lose(0);
    long h = 17;
    int[] counts = {2, 2, 1, 5, 5, 51, 9, 1, -1};
    for (int c : counts) h = 31 * h + c;
    long[] lists = {0, 2, 1, 400, 0, 300, 0, 0, 0, 0, 0, 0, 0, 0, 1, 1, 50000000};
    for (long l : lists) h = 31 * h + l;
    Due.is("digest", x.digest(), h);
  }
}
