/** Promises 8 to 13: sales, sheets of sales, what they are, striking, putting back, as of. */
public final class SaleTest {
  public static void main(String[] args) {
    badSales();
    fullSales();
    read();
    readKeepsToLongs();
    about();
    strikeAndBack();
    asOf();
    Due.close();
  }

  private static MostSold small() {
    MostSold x = new MostSold();
    x.title(0);
    x.thing(0, 0, 10);
    x.thing(0, 1, 10);
    x.shop(0, 1, 0, 51);
    x.shop(1, 2, 3, 4);
    return x;
  }

  private static void badSales() {
    MostSold x = small();
    int[] good = {1, 1, 51, 167, 100000, 3, 51};
    int[] below = {-1, -1, -1, -1, 0, -1, 50};
    int[] above = {2, 2, 52, 168, 100001, 4, 52};
    for (int i = 0; i < 7; i++) {
      Due.is("below at " + i, saleWith(x, good, i, below[i]), -2);
      Due.is("above at " + i, saleWith(x, good, i, above[i]), -2);
    }
    Due.is("the good one", saleWith(x, good, 0, 1), 0);
    Due.is("the least one", x.sale(0, 0, 0, 0, 1, 0, 0), 1);
    Due.is("count(3)", x.count(3), 2);
  }

  private static int saleWith(MostSold x, int[] good, int at, int item) {
    int[] g = good.clone();
    g[at] = item;
    return x.sale(g[0], g[1], g[2], g[3], g[4], g[5], g[6]);
  }

  private static void fullSales() {
    MostSold x = small();
    for (int i = 0; i < 150; i++) Due.is("sale", x.sale(0, 0, i % 52, i, 1 + i, i % 4, 51), i);
    Due.is("151st", x.sale(0, 0, 0, 0, 1, 0, 0), -4);
    Due.is("151st, bad", x.sale(0, 0, 0, 0, 0, 0, 0), -2);
    Due.is("count(3)", x.count(3), 150);
    x.sheet(0, 0, 14);
    for (int i = 0; i < 2; i++) x.put(0, 0, 7 * i + 4, 1);
    Due.is("read when full", x.read(0), 0);
  }

  private static void read() {
    MostSold x = small();
    Due.is("read(-1)", x.read(-1), -2);
    Due.is("read(4)", x.read(4), -2);
    Due.is("read lost", x.read(3), -11);
    Due.is("count(8)", x.count(8), 1);
    x.sheet(3, 0, 6);
    Due.is("read six", x.read(3), 0);
    x.sheet(3, 0, 0);
    Due.is("read none", x.read(3), 0);
    x.sheet(3, 0, 20);
    long[] items = {1, 1, 4, 100, 9, 2, 5, 0, 0, 2, 3, 4, 1, 2};
    for (int i = 0; i < items.length; i++) x.put(3, 0, i, items[i]);
    Due.is("read two of bytes, six items aside", x.read(3), 2);
    for (int i = 0; i < 7; i++) {
      Due.is("sale 0, " + i, x.about(0, i), items[i]);
      Due.is("sale 1, " + i, x.about(1, i), items[7 + i]);
    }
    x.put(3, 0, 4, 0);
    Due.is("the first may not be, the second is not looked at", x.read(3), 0);
    x.put(3, 0, 4, 9);
    x.put(3, 0, 13, 1);
    Due.is("the second may not be", x.read(3), 1);
    Due.is("count(3)", x.count(3), 3);
    x.sheet(0, 1, 120);
    for (int i = 0; i < 18; i++) if (7 * i + 4 < 120) x.put(0, 1, 7 * i + 4, 1);
    Due.is("17 of 120 items", x.read(0), 17);
    Due.is("count(3) then", x.count(3), 20);
  }

  private static void readKeepsToLongs() {
    MostSold x = small();
    x.sheet(0, 3, 7);
    x.put(0, 3, 4, 1);
    for (int i = 0; i < 7; i++) {
      long was = x.get(0, 3, i);
      x.put(0, 3, i, was + (1L << 32));
      Due.is("too long an item " + i, x.read(0), 0);
      x.put(0, 3, i, was);
    }
    Due.is("as it was", x.read(0), 1);
  }

  private static void about() {
    MostSold x = small();
    Due.is("about(0, 0)", x.about(0, 0), -1000);
    x.sale(1, 0, 2, 33, 44, 3, 6);
    int[] due = {1, 0, 2, 33, 44, 3, 6, -1, 1};
    for (int i = 0; i < 9; i++) Due.is("about(0, " + i + ")", x.about(0, i), due[i]);
    Due.is("about(0, 9)", x.about(0, 9), -1000);
    Due.is("about(0, -1)", x.about(0, -1), -1000);
    Due.is("about(1, 0)", x.about(1, 0), -1000);
    Due.is("about(-1, 0)", x.about(-1, 0), -1000);
    x.strike(0, 9);
    Due.is("struck in", x.about(0, 7), 9);
    Due.is("not known any more", x.about(0, 8), 0);
    x.asOf(8);
    Due.is("known as of 8", x.about(0, 8), 1);
    Due.is("struck in, as of 8", x.about(0, 7), 9);
    x.asOf(5);
    Due.is("not told as of 5", x.about(0, 8), 0);
    Due.is("count(4)", x.count(4), 0);
    x.asOf(6);
    Due.is("count(4) as of 6", x.count(4), 1);
  }

  private static void strikeAndBack() {
    MostSold x = small();
    x.sale(0, 0, 2, 33, 44, 3, 6);
    Due.is("strike(1, 7)", x.strike(1, 7), -2);
    Due.is("strike(-1, 7)", x.strike(-1, 7), -2);
    Due.is("strike(0, -1)", x.strike(0, -1), -2);
    Due.is("strike(0, 52)", x.strike(0, 52), -2);
    Due.is("strike(0, 5)", x.strike(0, 5), -3);
    Due.is("back when not struck", x.back(0), -3);
    Due.is("strike(0, 6)", x.strike(0, 6), 1);
    Due.is("twice", x.strike(0, 6), -3);
    Due.is("twice, bad", x.strike(0, 52), -2);
    Due.is("back(1)", x.back(1), -2);
    Due.is("back(-1)", x.back(-1), -2);
    Due.is("back(0)", x.back(0), 6);
    Due.is("back again", x.back(0), -3);
    Due.is("known again", x.about(0, 8), 1);
    Due.is("strike(0, 51)", x.strike(0, 51), 1);
    Due.is("struck up to 51", x.about(0, 8), 0);
  }

  private static void asOf() {
    MostSold x = small();
    Due.is("asOf(-1)", x.asOf(-1), -2);
    Due.is("asOf(52)", x.asOf(52), -2);
    Due.is("asOf(0)", x.asOf(0), 51);
    Due.is("count(5)", x.count(5), 0);
    Due.is("asOf(51)", x.asOf(51), 0);
    Due.is("asOf(7)", x.asOf(7), 51);
    Due.is("asOf(7) again", x.asOf(7), 7);
  }
}
