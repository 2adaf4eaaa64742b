/** Promises 19 to 25: amounts, sums, how sure they are, the list with its ties, spans, firmness. */
public final class SumsTest {
  private static final long LEAST = Long.MIN_VALUE;

  public static void main(String[] args) {
    amounts();
    amountsByRules();
    amountsBroughtBack();
    sums();
    sumsBelowZero();
    sumsCutTowardZero();
    leastSum();
    sure();
    list();
    ties();
    spans();
    firm();
    firmByTies();
    asItWasKnown();
    badAsks();
    Due.close();
  }

  private static void amounts() {
    MostSold x = new MostSold();
    x.title(9);
    x.thing(0, 0, 9);
    x.thing(0, 1, 9);
    x.shop(0, 1, 0, 3);
    x.shop(0, 1, 0, 51);
    x.sale(0, 0, 5, 0, 7, 0, 5);
    x.sale(0, 0, 5, 167, 8, 2, 51);
    x.sale(0, 0, 5, 9, 150, 1, 5);
    x.sale(0, 0, 5, 9, 149, 1, 5);
    x.sale(0, 0, 5, 9, 4, 3, 5);
    x.sale(0, 1, 5, 9, 1000, 0, 5);
    x.sale(1, 0, 5, 9, 2000, 0, 5);
    x.sale(0, 0, 4, 9, 3000, 0, 5);
    Due.is("sold, bundled, heard together and cut, brought back; of a shop not open", x.amount(0, 0, 5, 0), 13);
    Due.is("another thing", x.amount(0, 1, 5, 0), 1000);
    Due.is("another shop", x.amount(1, 0, 5, 0), 2000);
    Due.is("another week", x.amount(0, 0, 4, 0), 3000);
    Due.is("no sale", x.amount(1, 1, 5, 0), 0);
  }

  private static void amountsByRules() {
    MostSold x = new MostSold();
    x.title(0);
    x.thing(0, 0, 9);
    x.shop(0, 1, 0, 51);
    x.sale(0, 0, 5, 20, 1, 0, 5);
    x.sale(0, 0, 5, 30, 10, 2, 6);
    x.sale(0, 0, 5, 40, 100, 1, 7);
    x.sale(0, 0, 5, 50, 1000, 0, 8);
    Due.rules(x, "h=33@1;b=0@2;b=1@3;l=2@4;l=51@5;o=30@6;o=31@7;o=0@8;c=40@8;c=39@9;o=40@10;c=30@11");
    Due.is("fault", x.fault(), -1);
    long[] due = {
      1 + 10 + 1 + 1000, 1 + 10 + 3 + 1000, 1 + 3 + 1000, 1 + 10 + 3 + 1000, 1 + 10 + 3, 1 + 10 + 3 + 1000,
      10 + 3 + 1000, 3 + 1000, 1 + 10 + 3, 1 + 10, 0, 0};
    for (int v = 0; v < 12; v++) Due.is("amount by rules of " + v, x.amount(0, 0, 5, v), due[v]);
    Due.rules(x, "h=1");
    Due.is("each one heard is one", x.amount(0, 0, 5, 0), 1 + 10 + 100 + 1000);
    Due.rules(x, "l=0");
    Due.is("told in its own week alone", x.amount(0, 0, 5, 0), 1);
    Due.rules(x, "o=40;c=40");
    Due.is("one hour", x.amount(0, 0, 5, 0), 1);
  }

  private static void amountsBroughtBack() {
    MostSold x = new MostSold();
    x.title(0);
    x.thing(0, 0, 9);
    x.shop(0, 1, 0, 51);
    x.sale(0, 0, 5, 20, 3, 3, 6);
    x.sale(0, 0, 5, 20, 50, 0, 5);
    x.sale(0, 0, 51, 20, 4, 3, 51);
    Due.rules(x, "r=2@1;r=51@2;r=3@3;l=0@4");
    Due.is("in its own week", x.amount(0, 0, 5, 0), 47);
    Due.is("r 2: week 5", x.amount(0, 0, 5, 1), 50);
    Due.is("r 2: week 3", x.amount(0, 0, 3, 1), -3);
    Due.is("r 2: week 7", x.amount(0, 0, 7, 1), 0);
    Due.is("r 2: week 49", x.amount(0, 0, 49, 1), -4);
    Due.is("r 2: week 51", x.amount(0, 0, 51, 1), 0);
    Due.is("r 2: week 50", x.amount(0, 0, 50, 1), 0);
    Due.is("r 51: week 0", x.amount(0, 0, 0, 2), -4);
    Due.is("r 51: week 1", x.amount(0, 0, 1, 2), 0);
    Due.is("r 3: week 2", x.amount(0, 0, 2, 3), -3);
    Due.is("told too late: by its own week, not the one it is taken off", x.amount(0, 0, 2, 4), 0);
    Due.is("told in time", x.amount(0, 0, 48, 4), -4);
  }

  private static void sums() {
    MostSold x = new MostSold();
    x.title(40);
    x.title(0);
    x.thing(0, 0, 9);
    x.thing(0, 3, 9);
    x.thing(1, 0, 9);
    x.shop(0, 10, 0, 51);
    x.shop(0, 20, 0, 51);
    x.shop(0, 7, 0, 51);
    x.shop(2, 3, 0, 51);
    x.shop(2, 5, 0, 51);
    x.shop(1, 100, 0, 51);
    x.shop(0, 99, 0, 4);
    x.sale(0, 0, 5, 0, 11, 0, 5);
    x.sale(1, 1, 5, 0, 3, 0, 5);
    x.sale(3, 0, 5, 0, 5, 0, 5);
    x.sale(3, 2, 5, 0, 100, 0, 5);
    x.sale(6, 0, 5, 0, 1000, 0, 5);
    Due.rules(x, "f3=33;k2=150");
    long kind0 = 1100 + 99;
    long kind2 = 750;
    Due.is("told", x.sum(0, 5, 0, 1), kind0 + kind2);
    Due.is("foretold", x.sum(0, 5, 0, 2), kind0 * 7 / 30 + kind2 * 5 / 3);
    Due.is("sum, also ahead of coming out", x.sum(0, 5, 0, 0), kind0 + kind2 + kind0 * 7 / 30 + kind2 * 5 / 3);
    Due.is("another title", x.sum(1, 5, 0, 0), 15000 + 25000);
    Due.is("none tells", x.sum(0, 6, 0, 0), 0);
    x.empty(4, 5, 5);
    Due.is("an empty shop tells", x.sum(0, 5, 0, 2), kind0 * 7 / 30);
    x.empty(5, 5, 5);
    Due.is("a kind of empty shops", x.sum(0, 5, 0, 0), kind0 + kind2 + kind0 * 7 / 30);
  }

  private static void sumsBelowZero() {
    MostSold x = new MostSold();
    x.title(0);
    x.thing(0, 0, 9);
    x.shop(0, 7, 0, 51);
    x.shop(0, 2, 0, 51);
    x.shop(1, 1, 0, 51);
    x.sale(0, 0, 5, 0, 1, 3, 5);
    x.sale(2, 0, 5, 0, 3, 0, 5);
    Due.is("told", x.sum(0, 5, 0, 1), 200);
    Due.is("foretold below 0, cut toward 0", x.sum(0, 5, 0, 2), -28);
    Due.is("sum", x.sum(0, 5, 0, 0), 172);
    Due.is("listed", x.line(5, 5, 0), 0);
    x.strike(1, 5);
    Due.is("sum below 0", x.sum(0, 5, 0, 0), -128);
    Due.is("not listed", x.line(5, 5, 0), -1);
    Due.is("not sure", x.sure(0, 5), -3);
    Due.is("not firm", x.firm(5), -3);
  }

  private static void sumsCutTowardZero() {
    MostSold x = new MostSold();
    x.title(0);
    x.thing(0, 0, 9);
    x.thing(0, 0, 9);
    x.shop(0, 1, 0, 51);
    x.shop(0, 1, 0, 51);
    x.sale(0, 0, 5, 0, 3, 0, 5);
    x.sale(0, 1, 5, 0, 3, 0, 5);
    x.sale(1, 0, 5, 0, 3, 3, 5);
    Due.rules(x, "f0=7;k0=9");
    Due.is("each thing of each shop is cut alone: 1.89, 1.89, -1.89", x.sum(0, 5, 5, 0), 1);
    Due.rules(x, "f0=0");
    Due.is("a form that counts for nothing", x.sum(0, 5, 5, 0), 0);
    Due.rules(x, "f0=500;k0=500");
    Due.is("at the most", x.sum(0, 5, 5, 0), 7500);
  }

  private static void leastSum() {
    MostSold x = new MostSold();
    x.title(0);
    x.thing(0, 0, 9);
    x.shop(0, 1, 0, 51);
    x.shop(0, 1, 0, 51);
    x.sale(0, 0, 5, 0, 100, 0, 5);
    Due.rules(x, "f0=1;k0=1@5");
    x.empty(1, 5, 6);
    Due.is("a hundredth", x.sum(0, 5, 5, 0), 1);
    Due.is("is listed", x.place(0, 5, 5), 1);
    Due.is("is sure", x.sure(0, 5), 10000);
    x.asOf(5);
    Due.is("is worth as much", x.worth(1, 5), 1);
    Due.is("is asked for", x.ask(5, 10), 2);
  }

  private static void sure() {
    MostSold x = new MostSold();
    x.title(0);
    x.title(0);
    x.thing(0, 0, 9);
    x.thing(1, 0, 9);
    x.shop(0, 10, 0, 51);
    x.shop(0, 20, 0, 51);
    x.shop(1, 1, 0, 51);
    x.shop(1, 99, 0, 51);
    x.sale(0, 0, 5, 0, 30, 0, 5);
    Due.is("a third", x.sure(0, 5), 3333);
    Due.is("no sum", x.sure(1, 5), -3);
    x.sale(2, 0, 5, 0, 1, 3, 5);
    // told 3000 - 100, foretold 6000 - 9900
    Due.is("below 0", x.sum(0, 5, 5, 0), -1000);
    Due.is("not above 0", x.sure(0, 5), -3);
    x.sale(0, 0, 5, 0, 3, 0, 5);
    x.sale(0, 0, 5, 0, 1, 0, 5);
    // told 3400 - 100, foretold 6800 - 9900: 3300 by 200
    Due.is("more than all", x.sure(0, 5), 165000);
    Due.rules(x, "l=0@5");
    x.sale(0, 0, 5, 0, 5000, 0, 6);
    Due.is("by the week's own rules", x.sure(0, 5), 165000);
    Due.is("bad title", x.sure(2, 5), -2);
    Due.is("bad week", x.sure(0, 52), -2);
    sureAtTheBounds();
  }

  private static void sureAtTheBounds() {
    MostSold x = new MostSold();
    x.title(0);
    x.thing(0, 0, 9);
    x.shop(0, 100, 0, 51);
    x.shop(1, 1, 0, 51);
    x.shop(1, 100, 0, 51);
    x.shop(0, 1, 0, 51);
    x.sale(0, 0, 5, 0, 100000, 0, 5);
    x.sale(0, 0, 5, 0, 1000, 0, 5);
    x.sale(1, 0, 5, 0, 1010, 3, 5);
    // kind 0: 10100000 and 101000; kind 1: -101000 and -10100000
    Due.is("a sum of 0", x.sum(0, 5, 5, 0), 0);
    x.sale(0, 0, 5, 0, 1, 0, 5);
    Due.is("told", x.sum(0, 5, 5, 1), 9999100);
    Due.is("a sum of 101", x.sum(0, 5, 5, 0), 101);
    Due.is("at most", x.sure(0, 5), 1000000);
    MostSold y = new MostSold();
    y.title(0);
    y.thing(0, 0, 9);
    y.shop(0, 1, 0, 51);
    y.shop(0, 100, 0, 51);
    y.shop(1, 100, 0, 51);
    y.shop(1, 1, 0, 51);
    y.sale(0, 0, 5, 0, 1000, 0, 5);
    y.sale(0, 0, 5, 0, 1, 0, 5);
    y.sale(2, 0, 5, 0, 100000, 3, 5);
    // kind 0: 100100 and 10010000; kind 1: -10000000 and -100000
    Due.is("told below 0", y.sum(0, 5, 5, 1), -9899900);
    Due.is("a sum of 10100", y.sum(0, 5, 5, 0), 10100);
    Due.is("at least", y.sure(0, 5), -1000000);
    y.sale(0, 0, 5, 0, 99, 0, 5);
    // kind 0: 110000 and 11000000
    Due.is("below 0, cut toward 0", y.sure(0, 5), -97920);
  }

  private static void list() {
    MostSold x = new MostSold();
    x.title(6);
    x.title(5);
    x.title(0);
    x.title(0);
    x.title(0);
    for (int i = 0; i < 5; i++) x.thing(i, 0, 9);
    x.shop(0, 1, 0, 51);
    x.sale(0, 0, 5, 0, 50, 0, 5);
    x.sale(0, 1, 5, 0, 10, 0, 5);
    x.sale(0, 2, 5, 0, 30, 0, 5);
    x.sale(0, 3, 5, 0, 20, 0, 5);
    int[] due = {2, 3, 1, -1, -1};
    for (int i = 0; i < 5; i++) Due.is("line " + i, x.line(5, 5, i), due[i]);
    int[] places = {-1, 3, 1, 2, -1};
    for (int t = 0; t < 5; t++) Due.is("place of " + t, x.place(t, 5, 5), places[t]);
    Due.is("line(5, 5, max)", x.line(5, 5, Integer.MAX_VALUE), -1);
    Due.is("another week", x.line(6, 6, 0), -1);
  }

  private static void ties() {
    MostSold x = new MostSold();
    int[] out = {1, 3, 3, 2, 5, 0};
    int[] many = {4, 4, 4, 4, 9, 1};
    for (int i = 0; i < 6; i++) {
      x.title(out[i]);
      x.thing(i, 0, 9);
    }
    x.shop(0, 1, 0, 51);
    for (int i = 5; i >= 0; i--) x.sale(0, i, 5, 0, many[i], 0, 5);
    Due.rules(x, "t=1@1;t=2@2");
    int[][] lines = {{4, 0, 1, 2, 3, 5}, {4, 1, 2, 3, 0, 5}, {4, 0, 1, 2, 3, 5}};
    int[][] places = {{2, 3, 4, 5, 1, 6}, {5, 2, 3, 4, 1, 6}, {2, 2, 2, 2, 1, 6}};
    for (int v = 0; v < 3; v++) {
      for (int i = 0; i < 6; i++) {
        Due.is("line " + i + " by rules of " + v, x.line(5, v, i), lines[v][i]);
        Due.is("place of " + i + " by rules of " + v, x.place(i, 5, v), places[v][i]);
      }
    }
  }

  private static void spans() {
    MostSold x = new MostSold();
    x.title(0);
    x.title(0);
    x.thing(0, 0, 9);
    x.shop(0, 10, 0, 51);
    x.shop(0, 30, 0, 51);
    x.shop(0, 20, 0, 51);
    x.shop(1, 1, 0, 51);
    x.shop(1, 1, 0, 51);
    x.sale(0, 0, 5, 0, 7, 0, 5);
    x.sale(1, 0, 5, 0, 2, 0, 5);
    x.sale(3, 0, 5, 0, 1, 3, 5);
    // as it is: 900 + 900 * 20 / 40 - 100 - 100
    Due.is("as it is", x.sum(0, 5, 5, 0), 1150);
    // without 0: 200 + 200 * 30 / 30; without 1: 700 + 700 * 50 / 10; without 3: 1350
    Due.is("least", x.span(0, 5, 0), 200 + 200 * 30 / 30 - 200);
    Due.is("greatest: 700 and 700 times 50 by 10, less 200", x.span(0, 5, 1), 700 + 3500 - 200);
    Due.is("of nothing", x.span(1, 5, 0), 0);
    Due.is("of nothing, greatest", x.span(1, 5, 1), 0);
    Due.is("of a week when none tells", x.span(0, 6, 1), 0);
    Due.rules(x, "k0=200@5;k0=300@6");
    Due.is("by the week's own rules", x.span(0, 5, 1), 2 * 4200 - 200);
    Due.is("bad end", x.span(0, 5, 2), LEAST);
    Due.is("bad end", x.span(0, 5, -1), LEAST);
    Due.is("bad title", x.span(2, 5, 0), LEAST);
    Due.is("bad week", x.span(0, -1, 0), LEAST);
  }

  private static void firm() {
    MostSold x = new MostSold();
    x.title(0);
    x.title(0);
    x.thing(0, 0, 9);
    x.thing(1, 0, 9);
    x.shop(0, 1, 0, 51);
    x.shop(0, 1, 0, 51);
    x.shop(1, 1, 0, 51);
    Due.is("empty list", x.firm(5), -3);
    x.sale(0, 1, 5, 0, 7, 0, 5);
    Due.is("left out, the list is empty", x.firm(5), 0);
    x.sale(1, 1, 5, 0, 3, 0, 5);
    Due.is("whichever is left out", x.firm(5), 1);
    x.sale(1, 0, 5, 0, 4, 0, 5);
    Due.is("without 0 another is first", x.firm(5), 0);
    x.sale(2, 1, 5, 0, 9, 0, 5);
    Due.is("another kind holds it", x.firm(5), 1);
    Due.rules(x, "k1=0@5");
    Due.is("by the week's own rules", x.firm(5), 0);
    Due.is("bad week", x.firm(52), -2);
    Due.is("bad week", x.firm(-1), -2);
  }

  private static void firmByTies() {
    MostSold x = new MostSold();
    x.title(0);
    x.title(1);
    x.thing(0, 0, 9);
    x.thing(1, 0, 9);
    x.shop(0, 1, 0, 51);
    x.shop(0, 1, 0, 51);
    x.sale(0, 0, 5, 0, 3, 0, 5);
    x.sale(0, 1, 5, 0, 4, 0, 5);
    x.sale(1, 0, 5, 0, 4, 0, 5);
    x.sale(1, 1, 5, 0, 4, 0, 5);
    Due.is("without 0 they tie, the lesser number is first", x.firm(5), 0);
    Due.rules(x, "t=1");
    Due.is("without 0 they tie, the later one is first", x.firm(5), 1);
  }

  private static void asItWasKnown() {
    MostSold x = new MostSold();
    x.title(0);
    x.thing(0, 0, 9);
    x.shop(0, 1, 0, 51);
    x.shop(0, 1, 0, 51);
    x.sale(0, 0, 5, 0, 3, 0, 5);
    x.sale(1, 0, 5, 0, 4, 0, 7);
    x.strike(0, 9);
    int[] weeks = {4, 5, 6, 7, 8, 9, 10};
    long[] due = {0, 600, 600, 700, 700, 800, 800};
    for (int i = 0; i < 7; i++) {
      x.asOf(weeks[i]);
      Due.is("as of " + weeks[i], x.sum(0, 5, 0, 0), due[i]);
    }
  }

  private static void badAsks() {
    MostSold x = new MostSold();
    Due.is("no title", x.sum(0, 0, 0, 0), LEAST);
    x.title(0);
    x.thing(0, 0, 9);
    x.shop(0, 1, 0, 51);
    int[][] bad = {{-1, 0, 0}, {1, 0, 0}, {0, -1, 0}, {0, 52, 0}, {0, 0, -1}, {0, 0, 52}};
    for (int[] b : bad) {
      Due.is("bad amount, shop", x.amount(b[0], 0, b[1], b[2]), LEAST);
      Due.is("bad amount, thing", x.amount(0, b[0], b[1], b[2]), b[0] == 0 && within(b[1]) && within(b[2]) ? 0 : LEAST);
      Due.is("bad sum", x.sum(b[0], b[1], b[2], 0), LEAST);
      Due.is("bad place", x.place(b[0], b[1], b[2]), -2);
      Due.is("bad line", x.line(b[1], b[2], b[0]), b[0] == 1 ? -1 : -2);
    }
    Due.is("bad what", x.sum(0, 0, 0, 3), LEAST);
    Due.is("bad what", x.sum(0, 0, 0, -1), LEAST);
  }

  private static boolean within(int week) {
    return 0 <= week && week <= 51;
  }
}
