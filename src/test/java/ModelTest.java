/** Random runs of calls: every answer of MostSold is held against that of Model. The runs are the same each time. */
public final class ModelTest {
  private static final int RUNS = 700;
  private static final int MOST_CALLS = 512;

  private final MostSold x = new MostSold();
  private final Model y = new Model();
  private final int run;
  private final int lastWeek;
  private final int mostShops;
  private final boolean isFull;
  private long seed;
  private int calls = 0;

  private ModelTest(int run) {
    this.run = run;
    this.seed = run * 0x9E3779B97F4A7C15L + 12345;
    this.lastWeek = below(4) == 0 ? 51 : 1 + below(6);
    this.isFull = run % 20 == 0;
    this.mostShops = isFull ? 16 : 1 + below(below(6) == 0 ? 16 : 7);
  }

  public static void main(String[] args) {
    int runs = args.length > 0 ? Integer.parseInt(args[0]) : RUNS;
    for (int run = 0; run < runs && !Due.anyWrong(); run++) new ModelTest(run).go();
    Due.close();
  }

  private int below(int n) {
    seed = seed * 6364136223846793005L + 1442695040888963407L;
    return (int) Long.remainderUnsigned(seed >>> 20, n);
  }

  private static final int[] WILD = {
    Integer.MIN_VALUE, Integer.MIN_VALUE + 1, -1000000, -52, -2, 3 << 16, 1 << 30, Integer.MAX_VALUE - 6, Integer.MAX_VALUE};

  private boolean isWild() {
    return below(300) == 0;
  }

  private int wild() {
    return WILD[below(WILD.length)];
  }

  private int week() {
    return isWild() ? wild() : below(60) == 0 ? 50 + below(4) : below(80) == 0 ? -1 : below(lastWeek + 1);
  }

  private int item(int count) {
    return isWild() ? wild() : below(40) == 0 ? below(count + 3) - 1 : below(Math.max(1, count));
  }

  private void is(String call, long got, long want) {
    calls++;
    Due.is("run " + run + ", call " + calls + ": " + call, got, want);
  }

  private void go() {
    for (int i = isFull ? 15 : below(5); i >= 0; i--) addTitle();
    for (int i = isFull ? 28 : below(7); i >= 0; i--) addThing();
    for (int i = isFull ? 20 : mostShops; i > 0; i--) addShop();
    if (below(2) == 0) typeRules();
    for (int i = isFull ? 170 : below(60); i >= 0; i--) addSale();
    while (calls < MOST_CALLS - 1 && !Due.anyWrong()) step();
    is("digest()", x.digest(), y.digest());
  }

  private void step() {
    int dice = below(100);
    if (dice < 2) addTitle();
    else if (dice < 5) addThing();
    else if (dice < 6 && x.count(2) < mostShops) addShop();
    else if (dice < 18) addSale();
    else if (dice < 32) change();
    else if (dice < 36 && calls < MOST_CALLS - 100) typeRules();
    else if (dice < 60) askSums();
    else if (dice < 78) askDoubts();
    else if (dice < 96) useSheets();
    else askRare();
  }

  private void addTitle() {
    int out = below(3) == 0 ? week() : 0;
    is("title(" + out + ")", x.title(out), y.title(out));
  }

  private void addThing() {
    int t = item(x.count(0));
    int form = below(30) == 0 ? below(6) - 1 : below(4);
    int made = below(20) == 0 ? below(2000002) - 500000 : below(30);
    is("thing(" + t + ", " + form + ", " + made + ")", x.thing(t, form, made), y.thing(t, form, made));
  }

  private void addShop() {
    int kind = below(40) == 0 ? below(6) - 1 : below(1 + below(4));
    int size = below(20) == 0 ? below(103) - 1 : 1 + below(9);
    int from = below(3) == 0 ? week() : 0;
    int to = below(3) == 0 ? week() : 51;
    is("shop(" + kind + ", " + size + ", " + from + ", " + to + ")", x.shop(kind, size, from, to), y.shop(kind, size, from, to));
  }

  private void addSale() {
    int shop = item(x.count(2));
    int thing = item(x.count(1));
    int week = week();
    int hour = isWild() ? wild() : below(40) == 0 ? below(170) - 1 : below(3) == 0 ? below(168) : 24 * below(7) + below(4);
    int many = isWild() ? wild() : below(30) == 0 ? below(100003) - 1 : 1 + below(below(4) == 0 ? 300 : 12);
    int sort = isWild() ? wild() : below(60) == 0 ? below(6) - 1 : below(4) * below(2);
    int told = below(3) == 0 ? week() : Math.min(51, week + below(2) * below(4));
    String call = "sale(" + shop + ", " + thing + ", " + week + ", " + hour + ", " + many + ", " + sort + ", " + told + ")";
    is(call, x.sale(shop, thing, week, hour, many, sort, told), y.sale(shop, thing, week, hour, many, sort, told));
  }

  private void change() {
    int sale = item(x.count(3));
    int shop = item(x.count(2));
    int week = week();
    int later = isWild() ? wild() : Math.min(51, week + below(4));
    int coins = isWild() ? wild() : below(20) == 0 ? below(1200) - 100 : below(15);
    switch (below(5)) {
      case 0: is("strike(" + sale + ", " + later + ")", x.strike(sale, later), y.strike(sale, later)); break;
      case 1: is("back(" + sale + ")", x.back(sale), y.back(sale)); break;
      case 2: {
        int asOf = below(2) == 0 ? 51 : later;
        is("asOf(" + asOf + ")", x.asOf(asOf), y.asOf(asOf));
        break;
      }
      case 3: is("empty(" + shop + ", " + week + ", " + later + ")", x.empty(shop, week, later), y.empty(shop, week, later)); break;
      default: is("coins(" + shop + ", " + coins + ")", x.coins(shop, coins), y.coins(shop, coins));
    }
  }

  private void typeRules() {
    is("wipe()", x.wipe(), y.wipe());
    StringBuilder text = new StringBuilder();
    for (int i = below(6); i >= 0; i--) {
      text.append(text.length() == 0 ? "" : ";").append(part());
    }
    if (below(12) == 0) text.setCharAt(below(text.length()), "hbfkt0159=@;x ".charAt(below(14)));
    if (below(12) == 0) text.append("0;1@f=".charAt(below(6)));
    for (int i = 0; i < text.length(); i++) {
      int b = text.charAt(i);
      is("type(" + b + ")", x.type(b), y.type(b));
    }
    is("fault() of " + text, x.fault(), y.fault());
  }

  private String part() {
    String letter = "hbrloctffkkt".substring(below(12)).substring(0, 1);
    String part;
    switch (letter) {
      case "h": part = "h=" + (1 + below(20)); break;
      case "b": part = "b=" + below(2); break;
      case "r": part = "r=" + below(4); break;
      case "l": part = "l=" + below(4); break;
      case "o": part = "o=" + below(60); break;
      case "c": part = "c=" + (80 + below(89)); break;
      case "t": part = "t=" + below(3); break;
      default: part = letter + below(4) + "=" + below(5) * 50;
    }
    return below(2) == 0 ? part : part + "@" + below(lastWeek + 2);
  }

  private void askSums() {
    int t = item(x.count(0));
    int w = week();
    int v = below(3) == 0 ? week() : w;
    int what = isWild() ? wild() : below(15) == 0 ? below(5) - 1 : below(3);
    int i = isWild() ? wild() : below(6) - below(8) / 7;
    int shop = item(x.count(2));
    int thing = item(x.count(1));
    String tw = "(" + t + ", " + w + ", ";
    switch (below(7)) {
      case 0: is("amount(" + shop + ", " + thing + ", " + w + ", " + v + ")", x.amount(shop, thing, w, v), y.amount(shop, thing, w, v)); break;
      case 1: is("sum" + tw + v + ", " + what + ")", x.sum(t, w, v, what), y.sum(t, w, v, what)); break;
      case 2: is("sure" + tw, x.sure(t, w), y.sure(t, w)); break;
      case 3: is("place" + tw + v, x.place(t, w, v), y.place(t, w, v)); break;
      case 4: is("line(" + w + ", " + v + ", " + i, x.line(w, v, i), y.line(w, v, i)); break;
      case 5: is("span" + tw + what, x.span(t, w, what), y.span(t, w, what)); break;
      default: is("firm(" + w, x.firm(w), y.firm(w));
    }
  }

  private void askDoubts() {
    int a = item(x.count(2));
    int b = item(x.count(2));
    int w = week();
    int what = isWild() ? wild() : below(15) == 0 ? below(6) - 1 : below(4);
    int sale = item(x.count(3));
    int thing = item(x.count(1));
    int rule = isWild() ? wild() : below(16) - below(8) / 7;
    switch (below(9)) {
      case 0: is("alike(" + a + ", " + b + ", " + w + ", " + what, x.alike(a, b, w, what), y.alike(a, b, w, what)); break;
      case 1: is("odd(" + w, x.odd(w), y.odd(w)); break;
      case 2: is("cannot(" + thing, x.cannot(thing), y.cannot(thing)); break;
      case 3: is("doubted(" + sale, x.doubted(sale), y.doubted(sale)); break;
      case 4: is("about(" + sale, x.about(sale, 4 + what), y.about(sale, 4 + what)); break;
      case 5: is("tells(" + a + ", " + w, x.tells(a, w), y.tells(a, w)); break;
      case 6: is("rule(" + rule + ", " + w, x.rule(rule, w), y.rule(rule, w)); break;
      case 7: is("why(" + rule + ", " + w, x.why(rule, w), y.why(rule, w)); break;
      default: is("worth(" + a + ", " + w, x.worth(a, w), y.worth(a, w));
    }
  }

  private void askRare() {
    int sale = item(x.count(3));
    int w = week();
    int coins = isWild() ? wild() : below(12) == 0 ? below(20000) - 2000 : below(80);
    if (below(4) == 0) is("moves(" + sale, x.moves(sale), y.moves(sale));
    else is("ask(" + w + ", " + coins, x.ask(w, coins), y.ask(w, coins));
  }

  private void useSheets() {
    int s = isWild() ? wild() : below(20) == 0 ? below(6) - 1 : below(3);
    int t = isWild() ? wild() : below(20) == 0 ? below(6) - 1 : below(3);
    int m = isWild() ? wild() : below(30) == 0 ? below(6) - 1 : below(8) == 0 ? below(4) : s == 1 ? 1 : 3;
    int i = below(50) == 0 ? wild() : below(30) - below(10) / 9;
    int j = below(50) == 0 ? wild() : below(12);
    int n = below(50) == 0 ? wild() : below(10) == 0 ? below(140) - 8 : below(31);
    int w = week();
    int c = isWild() ? wild() : below(10) - below(10) / 9;
    long v = below(5) == 0 ? (long) below(1 << 30) * below(1 << 30) * 9 : below(4);
    switch (below(9)) {
      case 0: is("sheet(" + s + ", " + m + ", " + n, x.sheet(s, m, n), y.sheet(s, m, n)); break;
      case 1: if (below(4) == 0) is("lose(" + s, x.lose(s), y.lose(s)); break;
      case 2: case 3: is("put(" + s + ", " + m + ", " + i + ", " + v, x.put(s, m, i, v), y.put(s, m, i, v)); break;
      case 4: is("get(" + s + ", " + m + ", " + i, x.get(s, m, i), y.get(s, m, i)); break;
      case 5: is("copy(" + s + ", " + i + ", " + t + ", " + j + ", " + n / 3, x.copy(s, i, t, j, n / 3), y.copy(s, i, t, j, n / 3)); break;
      case 6: is("write(" + s + ", " + w, x.write(s, w), y.write(s, w)); break;
      case 7: readSheet(s, m); break;
      default: is("count(" + c, x.count(c), y.count(c));
    }
  }

  private void readSheet(int s, int m) {
    is("sheet(" + s + ", " + m + ", 16)", x.sheet(s, m, 16), y.sheet(s, m, 16));
    int[] items = {item(x.count(2)), item(x.count(1)), week(), below(100), 1 + below(20), below(4), 51};
    for (int i = 0; i < 14 && below(40) > 0; i++) {
      is("put(" + s + ", " + m + ", " + i, x.put(s, m, i, items[i % 7]), y.put(s, m, i, items[i % 7]));
    }
    is("read(" + s, x.read(s), y.read(s));
  }
}
