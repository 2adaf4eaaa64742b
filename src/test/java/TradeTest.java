/** Promises 1 to 7: a new object; titles, things, shops, who tells, empty weeks, coins. */
public final class TradeTest {
  public static void main(String[] args) {
    newObject();
    titles();
    things();
    shops();
    tells();
    empties();
    coins();
    Due.close();
  }

  private static void newObject() {
    MostSold x = new MostSold();
    for (int what = 0; what <= 8; what++) Due.is("new count(" + what + ")", x.count(what), what == 5 ? 51 : 0);
    Due.is("new fault", x.fault(), 0);
    for (int s = 0; s < 4; s++) Due.is("new lose(" + s + ")", x.lose(s), -11);
    for (int w = 0; w < 52; w++) Due.is("new line", x.line(w, w, 0), MostSold.NONE);
  }

  private static void titles() {
    MostSold x = new MostSold();
    Due.is("title(-1)", x.title(-1), -2);
    Due.is("title(52)", x.title(52), -2);
    for (int i = 0; i < 12; i++) Due.is("title", x.title(i == 0 ? 51 : i), i);
    Due.is("13th title", x.title(0), -4);
    Due.is("13th title, bad", x.title(52), -2);
    Due.is("count(0)", x.count(0), 12);
  }

  private static void things() {
    MostSold x = new MostSold();
    Due.is("thing without title", x.thing(0, 0, 0), -2);
    x.title(0);
    Due.is("thing(1, 0, 0)", x.thing(1, 0, 0), -2);
    Due.is("thing(-1, 0, 0)", x.thing(-1, 0, 0), -2);
    Due.is("thing form -1", x.thing(0, -1, 0), -2);
    Due.is("thing form 4", x.thing(0, 4, 0), -2);
    Due.is("thing made -1", x.thing(0, 0, -1), -2);
    Due.is("thing made 1000001", x.thing(0, 0, 1000001), -2);
    for (int i = 0; i < 24; i++) Due.is("thing", x.thing(0, i % 4, i == 0 ? 1000000 : i), i);
    Due.is("25th thing", x.thing(0, 0, 0), -4);
    Due.is("25th thing, bad", x.thing(0, 4, 0), -2);
    Due.is("count(1)", x.count(1), 24);
  }

  private static void shops() {
    MostSold x = new MostSold();
    int[][] bad = {{-1, 1, 0, 0}, {4, 1, 0, 0}, {0, 0, 0, 0}, {0, 101, 0, 0}, {0, 1, -1, 0}, {0, 1, 0, 52}, {0, 1, 52, 52}, {0, 1, -1, -1}, {0, 1, 4, 3}};
    for (int[] b : bad) Due.is("bad shop", x.shop(b[0], b[1], b[2], b[3]), -2);
    for (int i = 0; i < 16; i++) Due.is("shop", x.shop(i % 4, 100 - i, i, i == 0 ? 51 : i), i);
    Due.is("17th shop", x.shop(0, 1, 0, 51), -4);
    Due.is("17th shop, bad", x.shop(0, 1, 5, 4), -2);
    Due.is("count(2)", x.count(2), 16);
    Due.is("open only in 7: 6", x.tells(7, 6), 0);
    Due.is("open only in 7: 7", x.tells(7, 7), 1);
    Due.is("open only in 7: 8", x.tells(7, 8), 0);
  }

  private static void tells() {
    MostSold x = new MostSold();
    x.title(0);
    x.thing(0, 0, 10);
    x.shop(0, 1, 3, 20);
    Due.is("tells(1, 3)", x.tells(1, 3), -2);
    Due.is("tells(-1, 3)", x.tells(-1, 3), -2);
    Due.is("tells(0, -1)", x.tells(0, -1), -2);
    Due.is("tells(0, 52)", x.tells(0, 52), -2);
    Due.is("silent", x.tells(0, 3), 1);
    x.sale(0, 0, 3, 160, 1, 1, 9);
    Due.is("a sale that was heard tells", x.tells(0, 3), 2);
    Due.rules(x, "l=0;c=1");
    Due.is("a sale that does not count tells", x.tells(0, 3), 2);
    x.asOf(8);
    Due.is("not told yet", x.tells(0, 3), 1);
    x.asOf(9);
    Due.is("told", x.tells(0, 3), 2);
    x.strike(0, 10);
    Due.is("not struck yet", x.tells(0, 3), 2);
    x.asOf(10);
    Due.is("struck", x.tells(0, 3), 1);
    x.back(0);
    Due.is("put back", x.tells(0, 3), 2);
    x.sale(0, 0, 2, 0, 1, 0, 2);
    Due.is("a sale ahead of opening", x.tells(0, 2), 0);
    x.empty(0, 21, 21);
    x.asOf(51);
    Due.is("empty behind closing", x.tells(0, 21), 0);
    x.sale(0, 0, 20, 0, 1, 3, 20);
    Due.is("what was brought back tells", x.tells(0, 20), 2);
  }

  private static void empties() {
    MostSold x = new MostSold();
    x.shop(0, 1, 0, 51);
    x.shop(0, 1, 0, 51);
    Due.is("empty(2, 0, 0)", x.empty(2, 0, 0), -2);
    Due.is("empty(-1, 0, 0)", x.empty(-1, 0, 0), -2);
    Due.is("empty(0, -1, 0)", x.empty(0, -1, 0), -2);
    Due.is("empty(0, 52, 52)", x.empty(0, 52, 52), -2);
    Due.is("empty(0, 51, 52)", x.empty(0, 51, 52), -2);
    Due.is("empty(0, 5, 4)", x.empty(0, 5, 4), -2);
    Due.is("first say", x.empty(0, 5, 9), 1);
    Due.is("the same", x.empty(0, 5, 9), 0);
    Due.is("later", x.empty(0, 5, 10), 0);
    Due.is("before", x.empty(0, 5, 7), 1);
    Due.is("between", x.empty(0, 5, 8), 0);
    Due.is("one shop and week", x.count(7), 1);
    Due.is("as of 51", x.tells(0, 5), 2);
    x.asOf(7);
    Due.is("as of 7", x.tells(0, 5), 2);
    x.asOf(6);
    Due.is("as of 6", x.tells(0, 5), 1);
    Due.is("another shop", x.empty(1, 5, 5), 1);
    Due.is("another week", x.empty(1, 51, 51), 1);
    Due.is("three said", x.count(7), 3);
    Due.is("shop 0, week 51", x.tells(0, 51), 1);
  }

  private static void coins() {
    MostSold x = new MostSold();
    Due.is("coins(0, 1)", x.coins(0, 1), -2);
    x.shop(0, 1, 0, 51);
    Due.is("coins(0, -1)", x.coins(0, -1), -2);
    Due.is("coins(0, 1001)", x.coins(0, 1001), -2);
    Due.is("coins(1, 1)", x.coins(1, 1), -2);
    Due.is("coins at first", x.coins(0, 0), 10);
    Due.is("coins none", x.coins(0, 1000), 0);
    Due.is("coins most", x.coins(0, 5), 1000);
  }
}
