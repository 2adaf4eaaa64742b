/** The document's first part of terms, sentence by sentence: each bound's last value and the first beyond it. */
public final class EdgesOfTermsTest {
  private static final long LEAST = Long.MIN_VALUE;

  public static void main(String[] args) {
    constants();
    calls();
    weeksTold();
    weeksAsked();
    titlesAtMost();
    thingsAtMost();
    titlesOfThings();
    formsAndMade();
    shopsAtMost();
    kindsAndSizes();
    openFromTo();
    openWeeks();
    salesAtMost();
    salesOf();
    hours();
    soMany();
    sorts();
    toldThatWeekOrLater();
    struckNotAheadOfTold();
    putBack();
    asOfAtFirst();
    knownToldUpTo();
    knownNotStruckUpTo();
    tellsIfOpen();
    tellsByASaleOfTheWeek();
    tellsByEmpty();
    silent();
    sheetsLostAtFirst();
    sheetsOfItems();
    mouldsByteAndShort();
    mouldsIntAndLong();
    findings();
    Due.close();
  }

  private static void constants() {
    Due.says("NONE = -1, BAD = -2, NOT = -3, FULL = -4");
    Due.is("NONE", MostSold.NONE, -1);
    Due.is("BAD", MostSold.BAD, -2);
    Due.is("NOT", MostSold.NOT, -3);
    Due.is("FULL", MostSold.FULL, -4);
  }

  private static void calls() {
    Due.says("An object is used for at most 512 calls");
    MostSold x = Stage.of(1, 1);
    for (int call = 4; call < 512; call++) Due.is("call " + call, x.asOf(call % 52), call == 4 ? 51 : (call - 1) % 52);
    Due.is("call 512", x.count(5), 511 % 52);
  }

  private static void weeksTold() {
    Due.says("WEEKS 0 .. 51");
    Due.edges("title", 0, 51, 0, -2, w -> new MostSold().title(w));
    Due.edges("shop from", 0, 51, 0, -2, w -> new MostSold().shop(0, 1, w, 51));
    Due.edges("shop to", 0, 51, 0, -2, w -> new MostSold().shop(0, 1, 0, w));
    Due.edges("empty week", 0, 51, 1, -2, w -> Stage.of(1, 1).empty(0, w, 51));
    Due.edges("empty told", 0, 51, 1, -2, w -> Stage.of(1, 1).empty(0, 0, w));
    Due.edges("sale week", 0, 51, 0, -2, w -> Stage.of(1, 1).sale(0, 0, w, 0, 1, 0, 51));
    Due.edges("sale told", 0, 51, 0, -2, w -> Stage.of(1, 1).sale(0, 0, 0, 0, 1, 0, w));
    Due.edges("strike", 0, 51, 1, -2, w -> withSale(0, 0).strike(0, w));
    Due.edges("asOf", 0, 51, 51, -2, w -> new MostSold().asOf(w));
  }

  private static void weeksAsked() {
    Due.says("WEEKS 0 .. 51");
    MostSold x = Stage.of(1, 2);
    x.sheet(0, 3, 2);
    Due.edges("tells", 0, 51, 1, -2, w -> x.tells(0, w));
    Due.edges("rule", 0, 51, 100, -2, w -> x.rule(0, w));
    Due.edges("why", 0, 51, -1, -2, w -> x.why(0, w));
    Due.edges("amount", 0, 51, 0, LEAST, w -> x.amount(0, 0, w, 0));
    Due.edges("amount by rules", 0, 51, 0, LEAST, v -> x.amount(0, 0, 0, v));
    Due.edges("sum", 0, 51, 0, LEAST, w -> x.sum(0, w, 0, 0));
    Due.edges("sum by rules", 0, 51, 0, LEAST, v -> x.sum(0, 0, v, 0));
    Due.edges("sure", 0, 51, -3, -2, w -> x.sure(0, w));
    Due.edges("place", 0, 51, -1, -2, w -> x.place(0, w, 0));
    Due.edges("place by rules", 0, 51, -1, -2, v -> x.place(0, 0, v));
    Due.edges("line", 0, 51, -1, -2, w -> x.line(w, 0, 0));
    Due.edges("line by rules", 0, 51, -1, -2, v -> x.line(0, v, 0));
    Due.edges("span", 0, 51, 0, LEAST, w -> x.span(0, w, 0));
    Due.edges("firm", 0, 51, -3, -2, w -> x.firm(w));
    Due.edges("alike", 0, 51, 0, -2, w -> x.alike(0, 1, w, 0));
    Due.edges("odd", 0, 51, -1, -2, w -> x.odd(w));
    Due.edges("worth", 0, 51, 0, LEAST + 2, w -> x.worth(0, w));
    Due.edges("ask", 0, 51, 0, -2, w -> x.ask(w, 100));
    Due.edges("write", 0, 51, 0, -2, w -> x.write(0, w));
  }

  private static void titlesAtMost() {
    Due.says("TITLES 0 .. 11 (12 at most)");
    MostSold x = new MostSold();
    for (int t = 0; t < 12; t++) {
      Due.is("count ahead of title " + t, x.count(0), t);
      Due.is("title " + t, x.title(51 - t), t);
    }
    Due.is("the 13th", x.title(0), -4);
    Due.is("the 14th", x.title(51), -4);
    Due.is("count", x.count(0), 12);
    Due.is("a thing of the last", x.thing(11, 0, 0), 0);
    Due.is("a thing of the 13th", x.thing(12, 0, 0), -2);
  }

  private static void thingsAtMost() {
    Due.says("THINGS 0 .. 23 (24 at most)");
    MostSold x = new MostSold();
    x.title(0);
    x.shop(0, 1, 0, 51);
    for (int t = 0; t < 24; t++) {
      Due.is("count ahead of thing " + t, x.count(1), t);
      Due.is("thing " + t, x.thing(0, 0, 0), t);
    }
    Due.is("the 25th", x.thing(0, 0, 0), -4);
    Due.is("the 26th", x.thing(0, 3, 9), -4);
    Due.is("count", x.count(1), 24);
    Due.is("the last sold", Stage.sold(x, 0, 23, 5, 7), 0);
    Due.is("amount of the last", x.amount(0, 23, 5, 5), 7);
    Due.is("the 25th sold", Stage.sold(x, 0, 24, 5, 7), -2);
  }

  private static void titlesOfThings() {
    Due.says("THINGS are of a TITLE: no such thing is BAD");
    Due.is("none yet", new MostSold().thing(0, 0, 0), -2);
    Due.edges("thing of the only one", 0, 0, 1, -2, t -> Stage.of(1, 1).thing(t, 0, 0));
    Due.edges("thing of three", 0, 2, 3, -2, t -> Stage.of(3, 1).thing(t, 0, 0));
  }

  private static void formsAndMade() {
    Due.says("in a FORM (0 to 3)");
    Due.edges("form", 0, 3, 1, -2, f -> Stage.of(1, 1).thing(0, f, 0));
    Due.says("MADE so many (0 to 1000000)");
    Due.edges("made", 0, 1000000, 1, -2, m -> Stage.of(1, 1).thing(0, 0, m));
  }

  private static void shopsAtMost() {
    Due.says("SHOPS 0 .. 15 (16 at most)");
    MostSold x = Stage.of(1, 0);
    Due.is("none yet", x.tells(0, 0), -2);
    for (int s = 0; s < 16; s++) {
      Due.is("count ahead of shop " + s, x.count(2), s);
      Due.is("shop " + s, x.shop(0, 1, 0, 51), s);
    }
    Due.is("the 17th", x.shop(0, 1, 0, 51), -4);
    Due.is("the 18th", x.shop(3, 100, 51, 51), -4);
    Due.is("count", x.count(2), 16);
    Due.is("the last sold", Stage.sold(x, 15, 0, 5, 7), 0);
    Due.is("the last tells", x.tells(15, 5), 2);
    Due.is("the 17th sold", Stage.sold(x, 16, 0, 5, 7), -2);
    Due.is("the 17th tells", x.tells(16, 5), -2);
  }

  private static void kindsAndSizes() {
    Due.says("of a KIND (0 to 3)");
    Due.edges("kind", 0, 3, 0, -2, k -> new MostSold().shop(k, 1, 0, 51));
    Due.says("a SIZE (1 to 100)");
    Due.edges("size", 1, 100, 0, -2, s -> new MostSold().shop(0, s, 0, 51));
  }

  private static void openFromTo() {
    Due.says("OPEN from a WEEK to a WEEK; BAD: also from above to");
    MostSold x = new MostSold();
    Due.is("from like to", x.shop(0, 1, 20, 20), 0);
    Due.is("from one above to", x.shop(0, 1, 21, 20), -2);
    Due.is("from far above to", x.shop(0, 1, 51, 0), -2);
    Due.is("from one below to", x.shop(0, 1, 20, 21), 1);
    Due.is("all weeks", x.shop(0, 1, 0, 51), 2);
  }

  private static void openWeeks() {
    Due.says("OPEN from a WEEK to a WEEK");
    MostSold x = new MostSold();
    x.shop(0, 1, 20, 22);
    x.shop(0, 1, 0, 0);
    x.shop(0, 1, 51, 51);
    int[] due = {0, 1, 1, 1, 0};
    for (int w = 19; w <= 23; w++) Due.is("tells in " + w, x.tells(0, w), due[w - 19]);
    Due.is("only the first week: 0", x.tells(1, 0), 1);
    Due.is("only the first week: 1", x.tells(1, 1), 0);
    Due.is("only the last week: 50", x.tells(2, 50), 0);
    Due.is("only the last week: 51", x.tells(2, 51), 1);
  }

  private static void salesAtMost() {
    Due.says("SALES 0 .. 149 (150 at most)");
    MostSold x = Stage.of(1, 1);
    Due.is("none yet", x.about(0, 0), -1000);
    for (int s = 0; s < 150; s++) Due.is("sale " + s, Stage.sold(x, 0, 0, 5, 1 + s), s);
    Due.is("the 151st", Stage.sold(x, 0, 0, 5, 1), -4);
    Due.is("the 152nd", Stage.sold(x, 0, 0, 51, 100000), -4);
    Due.is("count", x.count(3), 150);
    Due.is("known", x.count(4), 150);
    Due.is("the last", x.about(149, 4), 150);
    Due.is("the 151st told of", x.about(150, 4), -1000);
    Due.is("all together", x.amount(0, 0, 5, 5), 150 * 151 / 2);
    Due.is("the last one struck", x.strike(149, 5), 1);
    Due.is("all but the last", x.amount(0, 0, 5, 5), 150 * 149 / 2);
    Due.is("a struck one leaves no place", Stage.sold(x, 0, 0, 5, 1), -4);
  }

  private static void salesOf() {
    Due.says("SALES are of a SHOP, a THING: no such thing is BAD");
    Due.is("no shop", Stage.of(1, 0).sale(0, 0, 0, 0, 1, 0, 0), -2);
    Due.is("no thing", Stage.of(0, 1).sale(0, 0, 0, 0, 1, 0, 0), -2);
    Due.edges("shop", 0, 2, 0, -2, s -> Stage.of(1, 3).sale(s, 0, 0, 0, 1, 0, 0));
    Due.edges("thing", 0, 2, 0, -2, t -> Stage.of(3, 1).sale(0, t, 0, 0, 1, 0, 0));
  }

  private static void hours() {
    Due.says("an HOUR (0 to 167)");
    Due.edges("hour", 0, 167, 0, -2, h -> Stage.of(1, 1).sale(0, 0, 0, h, 1, 0, 0));
  }

  private static void soMany() {
    Due.says("so many (1 to 100000)");
    Due.edges("many", 1, 100000, 0, -2, m -> Stage.of(1, 1).sale(0, 0, 0, 0, m, 0, 0));
  }

  private static void sorts() {
    Due.says("a SORT: 0 SOLD, 1 HEARD, 2 in a BUNDLE, 3 brought BACK");
    Due.edges("sort", 0, 3, 0, -2, s -> Stage.of(1, 1).sale(0, 0, 0, 0, 1, s, 0));
    int[] amounts = {200, 2, 200, -200};
    for (int sort = 0; sort < 4; sort++) {
      MostSold x = Stage.of(1, 1);
      Stage.sale(x, 0, 0, 5, 200, sort);
      Due.is("amount of sort " + sort, x.amount(0, 0, 5, 5), amounts[sort]);
    }
  }

  private static void toldThatWeekOrLater() {
    Due.says("they are TOLD in a WEEK (that WEEK or later)");
    Due.is("that week", Stage.of(1, 1).sale(0, 0, 20, 0, 1, 0, 20), 0);
    Due.is("one week ahead of it", Stage.of(1, 1).sale(0, 0, 20, 0, 1, 0, 19), -2);
    Due.is("one week later", Stage.of(1, 1).sale(0, 0, 20, 0, 1, 0, 21), 0);
    Due.is("51 weeks later", Stage.of(1, 1).sale(0, 0, 0, 0, 1, 0, 51), 0);
    Due.is("51 weeks ahead", Stage.of(1, 1).sale(0, 0, 51, 0, 1, 0, 0), -2);
    Due.is("51 in 51", Stage.of(1, 1).sale(0, 0, 51, 0, 1, 0, 51), 0);
  }

  /** A SALE of a WEEK, one, SOLD. */
  private static MostSold withSale(int week, int told) {
    MostSold x = Stage.of(1, 1);
    x.sale(0, 0, week, 0, 1, 0, told);
    return x;
  }

  private static void struckNotAheadOfTold() {
    Due.says("STRUCK in a WEEK (not ahead of that they were TOLD in)");
    Due.is("in the week it was told in", withSale(10, 20).strike(0, 20), 1);
    Due.is("one ahead of it", withSale(10, 20).strike(0, 19), -3);
    Due.is("in its own week", withSale(10, 20).strike(0, 10), -3);
    Due.is("one behind it", withSale(10, 20).strike(0, 21), 1);
    Due.is("told and struck in 51", withSale(51, 51).strike(0, 51), 1);
    Due.is("told in 51, struck in 50", withSale(51, 51).strike(0, 50), -3);
    Due.is("told and struck in 0", withSale(0, 0).strike(0, 0), 1);
  }

  private static void putBack() {
    Due.says("and put back (as if never STRUCK)");
    MostSold x = withSale(10, 20);
    x.strike(0, 30);
    Due.is("struck, its amount", x.amount(0, 0, 10, 10), 0);
    Due.is("back", x.back(0), 30);
    Due.is("struck in", x.about(0, 7), -1);
    Due.is("known", x.about(0, 8), 1);
    Due.is("its amount", x.amount(0, 0, 10, 10), 1);
    Due.is("the shop tells", x.tells(0, 10), 2);
    Due.is("not twice", x.back(0), -3);
    Due.is("struck again, earlier", x.strike(0, 20), 1);
    Due.is("back from there", x.back(0), 20);
    x.strike(0, 51);
    Due.is("back from 51", x.back(0), 51);
    MostSold y = withSale(0, 0);
    y.strike(0, 0);
    Due.is("back from 0", y.back(0), 0);
  }

  private static void asOfAtFirst() {
    Due.says("AS OF a WEEK (51 at first)");
    Due.is("count(5)", new MostSold().count(5), 51);
    Due.is("asOf", new MostSold().asOf(3), 51);
    Due.is("told in 51, known", withSale(0, 51).about(0, 8), 1);
  }

  private static void knownToldUpTo() {
    Due.says("KNOWN, if it was TOLD up to it");
    MostSold x = withSale(10, 20);
    int[] weeks = {0, 10, 19, 20, 21, 51};
    int[] due = {0, 0, 0, 1, 1, 1};
    for (int i = 0; i < weeks.length; i++) {
      x.asOf(weeks[i]);
      Due.is("as of " + weeks[i], x.about(0, 8), due[i]);
      Due.is("count(4) as of " + weeks[i], x.count(4), due[i]);
    }
  }

  private static void knownNotStruckUpTo() {
    Due.says("and not STRUCK up to it");
    MostSold x = withSale(10, 20);
    x.strike(0, 30);
    int[] weeks = {19, 20, 29, 30, 31, 51};
    int[] due = {0, 1, 1, 0, 0, 0};
    for (int i = 0; i < weeks.length; i++) {
      x.asOf(weeks[i]);
      Due.is("as of " + weeks[i], x.about(0, 8), due[i]);
      Due.is("count(4) as of " + weeks[i], x.count(4), due[i]);
    }
    MostSold y = withSale(10, 20);
    y.strike(0, 20);
    for (int w = 19; w <= 21; w++) {
      y.asOf(w);
      Due.is("told and struck in 20, as of " + w, y.about(0, 8), 0);
    }
    MostSold z = withSale(10, 20);
    z.strike(0, 51);
    Due.is("struck in 51, as of 51", z.about(0, 8), 0);
    z.asOf(50);
    Due.is("struck in 51, as of 50", z.about(0, 8), 1);
  }

  private static void tellsIfOpen() {
    Due.says("A SHOP TELLS in a WEEK, if it is OPEN");
    MostSold x = Stage.of(1, 0);
    x.shop(0, 1, 20, 22);
    int[] due = {0, 2, 2, 2, 0};
    for (int w = 19; w <= 23; w++) Stage.sold(x, 0, 0, w, 1);
    for (int w = 19; w <= 23; w++) Due.is("sold something, tells in " + w, x.tells(0, w), due[w - 19]);
    MostSold y = Stage.of(1, 0);
    y.shop(0, 1, 20, 22);
    for (int w = 19; w <= 23; w++) y.empty(0, w, w);
    for (int w = 19; w <= 23; w++) Due.is("empty, tells in " + w, y.tells(0, w), due[w - 19]);
  }

  private static void tellsByASaleOfTheWeek() {
    Due.says("and a SALE of it of that WEEK is KNOWN");
    for (int sort = 0; sort < 4; sort++) {
      MostSold x = Stage.of(1, 2);
      x.sale(0, 0, 20, 0, 1, sort, 30);
      int[] due = {1, 2, 1};
      for (int w = 19; w <= 21; w++) Due.is("sort " + sort + ", tells in " + w, x.tells(0, w), due[w - 19]);
      Due.is("the week it was told in", x.tells(0, 30), 1);
      Due.is("another shop", x.tells(1, 20), 1);
      x.strike(0, 40);
      int[] asOf = {29, 30, 39, 40};
      int[] then = {1, 2, 2, 1};
      for (int i = 0; i < 4; i++) {
        x.asOf(asOf[i]);
        Due.is("sort " + sort + ", as of " + asOf[i], x.tells(0, 20), then[i]);
      }
    }
  }

  private static void tellsByEmpty() {
    Due.says("or it said up to the WEEK as of which it is that it sold nothing in it (EMPTY)");
    MostSold x = Stage.of(1, 2);
    x.empty(0, 20, 30);
    int[] due = {1, 2, 1};
    for (int w = 19; w <= 21; w++) Due.is("tells in " + w, x.tells(0, w), due[w - 19]);
    Due.is("the week it was told in", x.tells(0, 30), 1);
    Due.is("another shop", x.tells(1, 20), 1);
    int[] asOf = {20, 29, 30, 31};
    int[] then = {1, 1, 2, 2};
    for (int i = 0; i < 4; i++) {
      x.asOf(asOf[i]);
      Due.is("as of " + asOf[i], x.tells(0, 20), then[i]);
    }
    x.asOf(51);
    x.empty(1, 51, 51);
    x.empty(1, 0, 0);
    Due.is("of 51 in 51", x.tells(1, 51), 2);
    Due.is("of 0 in 0", x.tells(1, 0), 2);
    x.asOf(0);
    Due.is("of 0 in 0, as of 0", x.tells(1, 0), 2);
    x.asOf(50);
    Due.is("of 51 in 51, as of 50", x.tells(1, 51), 1);
  }

  private static void silent() {
    Due.says("SILENT, if it is OPEN and does not TELL");
    MostSold x = new MostSold();
    x.shop(0, 1, 20, 20);
    Due.is("not open", x.tells(0, 19), 0);
    Due.is("silent", x.tells(0, 20), 1);
    Due.is("not open behind it", x.tells(0, 21), 0);
    x.empty(0, 20, 20);
    Due.is("it tells", x.tells(0, 20), 2);
  }

  private static void sheetsLostAtFirst() {
    Due.says("SHEETS 0 .. 3 are LOST (at first)");
    for (int s = 0; s < 4; s++) Due.is("lose " + s, new MostSold().lose(s), -11);
    Due.edges("lose", 0, 3, -11, -2, s -> new MostSold().lose(s));
    Due.edges("sheet", 0, 3, 7, -2, s -> new MostSold().sheet(s, 0, 7));
    MostSold x = new MostSold();
    for (int s = 0; s < 4; s++) x.sheet(s, s, 10 * s + 1);
    for (int s = 0; s < 4; s++) x.put(s, s, 10 * s, 50 + s);
    for (int s = 0; s < 4; s++) Due.is("each is a row of its own: " + s, x.get(s, s, 10 * s), 50 + s);
    for (int s = 0; s < 4; s++) Due.is("of its own length: " + s, x.lose(s), 10 * s + 1);
  }

  private static void sheetsOfItems() {
    Due.says("a row of a MOULD, of 0 to 120 items (0 at first)");
    Due.edges("mould", 0, 3, 7, -2, m -> new MostSold().sheet(0, m, 7));
    Due.is("no items", new MostSold().sheet(0, 0, 0), 0);
    Due.is("120 items", new MostSold().sheet(0, 0, 120), 120);
    Due.is("121 items", new MostSold().sheet(0, 0, 121), -2);
    Due.is("a great many items", new MostSold().sheet(0, 0, Integer.MAX_VALUE), -2);
    Due.is("-1 items", new MostSold().sheet(0, 0, -1), -15);
    MostSold x = new MostSold();
    x.sheet(2, 3, 120);
    for (int i = 0; i < 120; i++) Due.is("item " + i + " at first", x.get(2, 3, i), 0);
    Due.is("item 120", x.put(2, 3, 120, 1), -12);
    Due.is("item 119", x.put(2, 3, 119, 1), 1);
    x.sheet(2, 3, 0);
    Due.is("item 0 of none", x.put(2, 3, 0, 1), -12);
  }

  private static void mouldBits(int mould, long most) {
    MostSold x = new MostSold();
    x.sheet(0, mould, 5);
    long[] put = {most, most + 1, -most - 1, -most - 2, 2 * most + 2};
    long[] due = {most, -most - 1, -most - 1, most, 0};
    for (int i = 0; i < 5; i++) Due.is("put " + put[i] + " in mould " + mould, x.put(0, mould, i, put[i]), 1);
    for (int i = 0; i < 5; i++) Due.is("get " + put[i] + " of mould " + mould, x.get(0, mould, i), due[i]);
  }

  private static void mouldsByteAndShort() {
    Due.says("0 bytes, 1 shorts; the lowest bits that it has");
    mouldBits(0, 127);
    mouldBits(1, 32767);
  }

  private static void mouldsIntAndLong() {
    Due.says("2 ints, 3 longs; the lowest bits that it has");
    mouldBits(2, Integer.MAX_VALUE);
    mouldBits(3, Long.MAX_VALUE);
  }

  private static void findings() {
    Due.says("FINDINGS: answers -10 less the number: NULL 1, INDEX 2, CAST 3, STORE 4, SIZE 5");
    MostSold x = new MostSold();
    Due.is("none yet", x.count(8), 0);
    Due.is("null", x.lose(0), -11);
    Due.is("null is 1", x.count(8), 1);
    x.sheet(0, 0, 1);
    x.sheet(1, 1, 1);
    Due.is("index", x.put(0, 0, 1, 0), -12);
    Due.is("index is 2", x.count(8), 2);
    Due.is("cast", x.put(0, 1, 0, 0), -13);
    Due.is("cast is 3", x.count(8), 3);
    Due.is("store", x.copy(0, 0, 1, 0, 1), -14);
    Due.is("store is 4", x.count(8), 4);
    Due.is("size", x.sheet(0, 0, -1), -15);
    Due.is("size is 5", x.count(8), 5);
  }
}
