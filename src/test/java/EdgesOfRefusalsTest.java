import java.util.function.ToLongFunction;

/** Each act's refusals: which one it is, which of two comes first, and that they change nothing (FINDINGS but count() 8). */
public final class EdgesOfRefusalsTest {
  private static final long LEAST = Long.MIN_VALUE;
  private static final int NONE_FOUND = 0, NULL = 1, INDEX = 2, CAST = 3, STORE = 4, SIZE = 5;
  private static final int BAD = -2, NOT = -3, FULL = -4;

  public static void main(String[] args) {
    badOfTitlesThingsShops();
    badOfSales();
    badOfRules();
    badOfSums();
    badOfDoubtsAndAsking();
    badOfSheets();
    nullFound();
    notSo();
    full();
    findings();
    badAheadOfNull();
    badAheadOfNot();
    badAheadOfFull();
    badAheadOfFindings();
    nullAheadOfFindings();
    castAheadOfIndex();
    storeAheadOfIndex();
    refusalsOfLongs();
    latestFinding();
    Due.close();
  }

  /** Some of everything: SALE 2 is STRUCK, SALE 3 told behind the WEEK as of which it is; SHEET 2 is LOST, 3 has no items. */
  private static MostSold some() {
    MostSold x = new MostSold();
    x.title(0);
    x.title(6);
    x.thing(0, 0, 9);
    x.thing(0, 1, 9);
    x.thing(1, 2, 9);
    x.shop(0, 3, 0, 51);
    x.shop(0, 5, 0, 51);
    x.shop(1, 1, 0, 30);
    x.shop(3, 1, 5, 5);
    x.coins(1, 7);
    x.sale(0, 0, 5, 7, 4, 0, 5);
    x.sale(2, 1, 5, 31, 4, 2, 6);
    x.sale(0, 0, 5, 8, 40, 0, 5);
    x.sale(2, 2, 10, 8, 40, 0, 41);
    x.strike(2, 9);
    x.empty(3, 5, 7);
    Due.typeAll(x, "h=3;t=1@5");
    x.sheet(0, 2, 9);
    for (int i = 0; i < 9; i++) x.put(0, 2, i, 11 * i);
    x.sheet(1, 3, 5);
    x.put(1, 3, 4, LEAST);
    x.sheet(3, 0, 0);
    x.asOf(40);
    return x;
  }

  /** All that can be told of some(), but for count(8). */
  private static String lookAtSome(MostSold x) {
    StringBuilder all = new StringBuilder();
    for (int what = 0; what < 8; what++) all.append(x.count(what)).append(' ');
    all.append(x.digest()).append(" fault ").append(x.fault()).append(" rules ");
    for (int item = 0; item < 15; item++) all.append(x.rule(item, 5)).append(' ').append(x.why(item, 5)).append(' ');
    all.append(" shops ");
    for (int s = 0; s < 4; s++) for (int w = 4; w < 7; w++) all.append(x.tells(s, w));
    for (int s = 0; s < 4; s++) all.append(' ').append(x.coins(s, 1));
    all.append(" sales ");
    for (int s = 0; s < 4; s++) for (int what = 0; what < 9; what++) all.append(x.about(s, what)).append(' ');
    all.append(" sums ");
    for (int t = 0; t < 2; t++) all.append(x.sum(t, 5, 5, 0)).append(' ').append(x.place(t, 5, 5)).append(' ');
    all.append(" things ");
    for (int t = 0; t < 3; t++) all.append(x.cannot(t)).append(' ');
    all.append(" sheets ");
    for (int i = 0; i < 9; i++) all.append(x.get(0, 2, i)).append(' ');
    for (int i = 0; i < 5; i++) all.append(x.get(1, 3, i)).append(' ');
    for (int s = 0; s < 4; s++) all.append(x.lose(s)).append(' ');
    return all.toString();
  }

  private static void refused(String act, long due, int finding, ToLongFunction<MostSold> f) {
    MostSold x = some();
    MostSold y = some();
    Due.is(act, f.applyAsLong(x), due);
    Due.is("count(8) behind " + act, x.count(8), finding);
    Due.same("all as it was behind " + act, lookAtSome(x), lookAtSome(y));
  }

  private static void bad(String act, ToLongFunction<MostSold> f) {
    refused(act, BAD, NONE_FOUND, f);
  }

  private static void badOfTitlesThingsShops() {
    Due.says("BAD (a number not as told, no such thing) changes nothing: titles, things, shops");
    bad("title(52)", x -> x.title(52));
    bad("thing(2, 0, 0)", x -> x.thing(2, 0, 0));
    bad("thing(0, 4, 0)", x -> x.thing(0, 4, 0));
    bad("thing(0, 0, 1000001)", x -> x.thing(0, 0, 1000001));
    bad("shop(4, 1, 0, 51)", x -> x.shop(4, 1, 0, 51));
    bad("shop(0, 0, 0, 51)", x -> x.shop(0, 0, 0, 51));
    bad("shop(0, 1, 6, 5)", x -> x.shop(0, 1, 6, 5));
    bad("tells(4, 5)", x -> x.tells(4, 5));
    bad("tells(0, 52)", x -> x.tells(0, 52));
    bad("empty(4, 5, 5)", x -> x.empty(4, 5, 5));
    bad("empty(1, 5, 4)", x -> x.empty(1, 5, 4));
    bad("empty(1, 52, 52)", x -> x.empty(1, 52, 52));
    bad("coins(4, 1)", x -> x.coins(4, 1));
    bad("coins(0, 1001)", x -> x.coins(0, 1001));
    bad("coins(0, -1)", x -> x.coins(0, -1));
  }

  private static void badOfSales() {
    Due.says("BAD changes nothing: sales");
    bad("sale(4, 0, 5, 5, 5, 0, 5)", x -> x.sale(4, 0, 5, 5, 5, 0, 5));
    bad("sale(0, 3, 5, 5, 5, 0, 5)", x -> x.sale(0, 3, 5, 5, 5, 0, 5));
    bad("sale(0, 0, 52, 5, 5, 0, 52)", x -> x.sale(0, 0, 52, 5, 5, 0, 52));
    bad("sale(0, 0, 5, 168, 5, 0, 5)", x -> x.sale(0, 0, 5, 168, 5, 0, 5));
    bad("sale(0, 0, 5, 5, 0, 0, 5)", x -> x.sale(0, 0, 5, 5, 0, 0, 5));
    bad("sale(0, 0, 5, 5, 5, 4, 5)", x -> x.sale(0, 0, 5, 5, 5, 4, 5));
    bad("sale(0, 0, 5, 5, 5, 0, 4)", x -> x.sale(0, 0, 5, 5, 5, 0, 4));
    bad("read(4)", x -> x.read(4));
    refused("about(4, 0)", -1000, NONE_FOUND, x -> x.about(4, 0));
    refused("about(0, 9)", -1000, NONE_FOUND, x -> x.about(0, 9));
    bad("strike(4, 5)", x -> x.strike(4, 5));
    bad("strike(0, 52)", x -> x.strike(0, 52));
    bad("back(4)", x -> x.back(4));
    bad("asOf(52)", x -> x.asOf(52));
    bad("asOf(-1)", x -> x.asOf(-1));
  }

  private static void badOfRules() {
    Due.says("BAD changes nothing: rules");
    bad("type(256)", x -> x.type(256));
    bad("type(-1)", x -> x.type(-1));
    bad("rule(15, 5)", x -> x.rule(15, 5));
    bad("rule(0, 52)", x -> x.rule(0, 52));
    bad("why(15, 5)", x -> x.why(15, 5));
    bad("why(0, 52)", x -> x.why(0, 52));
  }

  private static void badOfSums() {
    Due.says("BAD changes nothing: sums, lists");
    refused("amount(4, 0, 5, 5)", LEAST, NONE_FOUND, x -> x.amount(4, 0, 5, 5));
    refused("amount(0, 3, 5, 5)", LEAST, NONE_FOUND, x -> x.amount(0, 3, 5, 5));
    refused("amount(-1, 0, 5, 5)", LEAST, NONE_FOUND, x -> x.amount(-1, 0, 5, 5));
    refused("amount(0, -1, 5, 5)", LEAST, NONE_FOUND, x -> x.amount(0, -1, 5, 5));
    refused("sum(2, 5, 5, 0)", LEAST, NONE_FOUND, x -> x.sum(2, 5, 5, 0));
    refused("sum(-1, 5, 5, 0)", LEAST, NONE_FOUND, x -> x.sum(-1, 5, 5, 0));
    refused("sum(0, 5, 5, 3)", LEAST, NONE_FOUND, x -> x.sum(0, 5, 5, 3));
    refused("sum(0, 5, 5, -1)", LEAST, NONE_FOUND, x -> x.sum(0, 5, 5, -1));
    bad("sure(2, 5)", x -> x.sure(2, 5));
    bad("sure(-1, 5)", x -> x.sure(-1, 5));
    bad("place(2, 5, 5)", x -> x.place(2, 5, 5));
    bad("place(-1, 5, 5)", x -> x.place(-1, 5, 5));
    bad("line(5, 5, -1)", x -> x.line(5, 5, -1));
    refused("span(2, 5, 0)", LEAST, NONE_FOUND, x -> x.span(2, 5, 0));
    refused("span(-1, 5, 0)", LEAST, NONE_FOUND, x -> x.span(-1, 5, 0));
    refused("span(0, 5, 2)", LEAST, NONE_FOUND, x -> x.span(0, 5, 2));
    refused("span(0, 5, -1)", LEAST, NONE_FOUND, x -> x.span(0, 5, -1));
    bad("firm(52)", x -> x.firm(52));
  }

  private static void badOfDoubtsAndAsking() {
    Due.says("BAD changes nothing: doubts, asking");
    bad("alike(0, 0, 5, 0)", x -> x.alike(0, 0, 5, 0));
    bad("alike(0, 4, 5, 0)", x -> x.alike(0, 4, 5, 0));
    bad("alike(4, 0, 5, 0)", x -> x.alike(4, 0, 5, 0));
    bad("alike(0, 1, 5, 4)", x -> x.alike(0, 1, 5, 4));
    bad("odd(52)", x -> x.odd(52));
    bad("cannot(3)", x -> x.cannot(3));
    bad("cannot(-1)", x -> x.cannot(-1));
    bad("doubted(4)", x -> x.doubted(4));
    bad("doubted(-1)", x -> x.doubted(-1));
    refused("moves(4)", LEAST + 2, NONE_FOUND, x -> x.moves(4));
    refused("moves(-1)", LEAST + 2, NONE_FOUND, x -> x.moves(-1));
    refused("worth(4, 5)", LEAST + 2, NONE_FOUND, x -> x.worth(4, 5));
    refused("worth(-1, 5)", LEAST + 2, NONE_FOUND, x -> x.worth(-1, 5));
    refused("worth(0, 52)", LEAST + 2, NONE_FOUND, x -> x.worth(0, 52));
    bad("ask(52, 5)", x -> x.ask(52, 5));
    bad("ask(5, 16001)", x -> x.ask(5, 16001));
    bad("ask(5, -1)", x -> x.ask(5, -1));
  }

  private static void badOfSheets() {
    Due.says("BAD changes nothing: sheets");
    bad("sheet(4, 2, 3)", x -> x.sheet(4, 2, 3));
    bad("sheet(0, 4, 3)", x -> x.sheet(0, 4, 3));
    bad("sheet(0, 2, 121)", x -> x.sheet(0, 2, 121));
    bad("lose(4)", x -> x.lose(4));
    bad("put(4, 2, 0, 1)", x -> x.put(4, 2, 0, 1));
    bad("put(0, 4, 0, 1)", x -> x.put(0, 4, 0, 1));
    bad("put(0, -1, 0, 1)", x -> x.put(0, -1, 0, 1));
    refused("get(4, 2, 0)", LEAST, NONE_FOUND, x -> x.get(4, 2, 0));
    refused("get(0, 4, 0)", LEAST, NONE_FOUND, x -> x.get(0, 4, 0));
    bad("copy(4, 0, 0, 0, 1)", x -> x.copy(4, 0, 0, 0, 1));
    bad("copy(0, 0, 4, 0, 1)", x -> x.copy(0, 0, 4, 0, 1));
    bad("write(4, 5)", x -> x.write(4, 5));
    bad("write(0, 52)", x -> x.write(0, 52));
    bad("count(9)", x -> x.count(9));
    bad("count(-1)", x -> x.count(-1));
  }

  private static void nullFound() {
    Due.says("NULL: the SHEET is LOST");
    refused("read", -11, NULL, x -> x.read(2));
    refused("lose", -11, NULL, x -> x.lose(2));
    refused("put", -11, NULL, x -> x.put(2, 2, 0, 1));
    refused("get", LEAST, NULL, x -> x.get(2, 2, 0));
    refused("copy from", -11, NULL, x -> x.copy(2, 0, 0, 0, 1));
    refused("copy to", -11, NULL, x -> x.copy(0, 0, 2, 0, 1));
    refused("copy both", -11, NULL, x -> x.copy(2, 0, 2, 0, 0));
    refused("write", -11, NULL, x -> x.write(2, 5));
  }

  private static void notSo() {
    Due.says("NOT");
    refused("strike: it is already", NOT, NONE_FOUND, x -> x.strike(2, 20));
    refused("strike: ahead of when it was TOLD", NOT, NONE_FOUND, x -> x.strike(3, 40));
    refused("back: it is not", NOT, NONE_FOUND, x -> x.back(0));
    refused("sure: the SUM is not above 0", NOT, NONE_FOUND, x -> x.sure(1, 5));
    refused("firm: it is empty", NOT, NONE_FOUND, x -> x.firm(4));
    refused("moves: it is not KNOWN, STRUCK", LEAST + 3, NONE_FOUND, x -> x.moves(2));
    refused("moves: it is not KNOWN, told later", LEAST + 3, NONE_FOUND, x -> x.moves(3));
    refused("worth: it is not SILENT, it tells", LEAST + 3, NONE_FOUND, x -> x.worth(0, 5));
    refused("worth: it is not SILENT, not open", LEAST + 3, NONE_FOUND, x -> x.worth(3, 6));
  }

  /** Twelve TITLES, 24 THINGS, 16 SHOPS, 150 SALES (of THING 0), 200 bytes of RULES. */
  private static MostSold fullOfAll() {
    MostSold x = new MostSold();
    for (int i = 0; i < 12; i++) x.title(i);
    for (int i = 0; i < 24; i++) x.thing(i % 12, i % 4, i);
    for (int i = 0; i < 16; i++) x.shop(i % 4, 1 + i, 0, 51);
    for (int i = 0; i < 150; i++) x.sale(i % 16, 0, 5, i, 1 + i, 0, 5);
    Due.typeAll(x, "h=1;".repeat(49) + "k0=9");
    return x;
  }

  private static String lookAtFull(MostSold x) {
    StringBuilder all = new StringBuilder();
    for (int what = 0; what < 9; what++) all.append(x.count(what)).append(' ');
    all.append(x.digest()).append(" fault ").append(x.fault()).append(' ').append(x.rule(10, 0)).append(" last ");
    for (int what = 0; what < 9; what++) all.append(x.about(149, what)).append(' ');
    for (int w = 4; w < 7; w++) all.append(x.tells(15, w)).append(x.sum(11, w, w, 0)).append(' ');
    return all.toString();
  }

  private static void refusedWhenFull(String act, long due, ToLongFunction<MostSold> f) {
    MostSold x = fullOfAll();
    MostSold y = fullOfAll();
    Due.is(act, f.applyAsLong(x), due);
    Due.same("all as it was behind " + act, lookAtFull(x), lookAtFull(y));
  }

  private static void full() {
    Due.says("FULL");
    refusedWhenFull("title", FULL, x -> x.title(0));
    refusedWhenFull("thing", FULL, x -> x.thing(0, 0, 0));
    refusedWhenFull("shop", FULL, x -> x.shop(0, 1, 0, 51));
    refusedWhenFull("sale", FULL, x -> x.sale(0, 0, 0, 0, 1, 0, 0));
    refusedWhenFull("type", FULL, x -> x.type('9'));
    refusedWhenFull("cannot", FULL, x -> x.cannot(0));
    refusedWhenFull("doubted", FULL, x -> x.doubted(0));
    refusedWhenFull("cannot of another thing", 0, x -> x.cannot(12));
  }

  private static void findings() {
    Due.says("other FINDINGS: INDEX, CAST, STORE, SIZE");
    refused("put behind the last item", -12, INDEX, x -> x.put(0, 2, 9, 1));
    refused("put ahead of the first item", -12, INDEX, x -> x.put(0, 2, -1, 1));
    refused("put in no items", -12, INDEX, x -> x.put(3, 0, 0, 1));
    refused("get behind the last item", LEAST, INDEX, x -> x.get(0, 2, 9));
    refused("get ahead of the first item", LEAST, INDEX, x -> x.get(0, 2, -1));
    refused("put by another mould", -13, CAST, x -> x.put(0, 3, 0, 1));
    refused("get by another mould", LEAST, CAST, x -> x.get(0, 1, 0));
    refused("copy to another mould", -14, STORE, x -> x.copy(0, 0, 1, 0, 1));
    refused("copy none to another mould", -14, STORE, x -> x.copy(0, 0, 3, 0, 0));
    refused("copy of not so many", -12, INDEX, x -> x.copy(0, 1, 0, 0, 9));
    refused("copy to not so many", -12, INDEX, x -> x.copy(0, 0, 0, 1, 9));
    refused("copy from below 0", -12, INDEX, x -> x.copy(0, -1, 0, 0, 1));
    refused("copy to below 0", -12, INDEX, x -> x.copy(0, 0, 0, -1, 1));
    refused("copy of below 0", -12, INDEX, x -> x.copy(0, 5, 0, 5, -1));
    refused("sheet below 0", -15, SIZE, x -> x.sheet(0, 2, -1));
    refused("sheet that was lost, below 0", -15, SIZE, x -> x.sheet(2, 2, -1));
    refused("sheet far below 0", -15, SIZE, x -> x.sheet(0, 2, Integer.MIN_VALUE));
  }

  private static void badAheadOfNull() {
    Due.says("the first that fits: BAD ahead of NULL");
    bad("put of no mould", x -> x.put(2, 4, 0, 1));
    refused("get of no mould", LEAST, NONE_FOUND, x -> x.get(2, 4, 0));
    bad("copy, lost, to no sheet", x -> x.copy(2, 0, 4, 0, 1));
    bad("copy, no sheet, to a lost one", x -> x.copy(-1, 0, 2, 0, 1));
    bad("write of no week", x -> x.write(2, 52));
  }

  private static void badAheadOfNot() {
    Due.says("the first that fits: BAD ahead of NOT");
    bad("strike one that is already, in no week", x -> x.strike(2, 52));
    bad("strike one that is already, in week -1", x -> x.strike(2, -1));
    bad("strike ahead of when it was told, in week -1", x -> x.strike(3, -1));
    bad("sure in no week", x -> x.sure(1, 52));
    bad("sure in week -1", x -> x.sure(1, -1));
    refused("worth of one that is not silent, in no week", LEAST + 2, NONE_FOUND, x -> x.worth(3, 52));
    refused("worth of no shop, in a week when none is open", LEAST + 2, NONE_FOUND, x -> x.worth(4, 6));
  }

  private static void badAheadOfFull() {
    Due.says("the first that fits: BAD ahead of FULL");
    refusedWhenFull("title", BAD, x -> x.title(52));
    refusedWhenFull("thing of no title", BAD, x -> x.thing(12, 0, 0));
    refusedWhenFull("thing of no form", BAD, x -> x.thing(0, 4, 0));
    refusedWhenFull("thing of too many", BAD, x -> x.thing(0, 0, 1000001));
    refusedWhenFull("shop of no kind", BAD, x -> x.shop(4, 1, 0, 51));
    refusedWhenFull("shop of no size", BAD, x -> x.shop(0, 0, 0, 51));
    refusedWhenFull("shop from above to", BAD, x -> x.shop(0, 1, 1, 0));
    refusedWhenFull("sale of no shop", BAD, x -> x.sale(16, 0, 0, 0, 1, 0, 0));
    refusedWhenFull("sale of no thing", BAD, x -> x.sale(0, 24, 0, 0, 1, 0, 0));
    refusedWhenFull("sale told too soon", BAD, x -> x.sale(0, 0, 1, 0, 1, 0, 0));
    refusedWhenFull("sale of none", BAD, x -> x.sale(0, 0, 0, 0, 0, 0, 0));
    refusedWhenFull("type", BAD, x -> x.type(256));
    refusedWhenFull("cannot", BAD, x -> x.cannot(24));
    refusedWhenFull("doubted", BAD, x -> x.doubted(150));
  }

  private static void badAheadOfFindings() {
    Due.says("the first that fits: BAD ahead of the other FINDINGS");
    bad("sheet of no number, size below 0", x -> x.sheet(4, 0, -1));
    bad("sheet of no mould, size below 0", x -> x.sheet(0, 4, -1));
    bad("put of no mould, index", x -> x.put(0, 4, 99, 1));
    bad("copy to no sheet, index", x -> x.copy(0, 99, 4, 0, 1));
    bad("copy from no sheet, index", x -> x.copy(4, 99, 0, 0, 1));
  }

  private static void nullAheadOfFindings() {
    Due.says("the first that fits: NULL ahead of CAST, STORE, INDEX");
    refused("put, index", -11, NULL, x -> x.put(2, 0, 99, 1));
    refused("get, index", LEAST, NULL, x -> x.get(2, 0, -1));
    refused("copy from, index", -11, NULL, x -> x.copy(2, -1, 1, 99, 1));
    refused("copy to, index", -11, NULL, x -> x.copy(1, 99, 2, -1, 1));
    MostSold x = new MostSold();
    x.sheet(0, 2, 3);
    x.lose(0);
    Due.is("one that was of that mould", x.put(0, 2, 0, 1), -11);
    Due.is("one that was of another mould", x.put(0, 1, 0, 1), -11);
  }

  private static void castAheadOfIndex() {
    Due.says("the first that fits: CAST ahead of INDEX");
    refused("put", -13, CAST, x -> x.put(0, 3, 9, 1));
    refused("put below 0", -13, CAST, x -> x.put(0, 3, -1, 1));
    refused("put, no items", -13, CAST, x -> x.put(3, 1, 0, 1));
    refused("get", LEAST, CAST, x -> x.get(0, 3, 9));
  }

  private static void storeAheadOfIndex() {
    Due.says("the first that fits: STORE ahead of INDEX");
    refused("copy from behind the last", -14, STORE, x -> x.copy(0, 9, 1, 0, 1));
    refused("copy from below 0", -14, STORE, x -> x.copy(0, -1, 1, 0, 1));
    refused("copy to behind the last", -14, STORE, x -> x.copy(0, 0, 1, 5, 1));
    refused("copy below 0", -14, STORE, x -> x.copy(1, 0, 0, 0, -1));
  }

  private static void refusalsOfLongs() {
    Due.says("Where the answer is a long, a refusal -x is the least long and x more");
    Due.is("moves, BAD", new MostSold().moves(0), -9223372036854775806L);
    Due.is("worth, BAD", new MostSold().worth(0, 0), -9223372036854775806L);
    MostSold x = some();
    Due.is("moves, NOT", x.moves(2), -9223372036854775805L);
    Due.is("worth, NOT", x.worth(0, 5), -9223372036854775805L);
    Due.says("BAD: the least long");
    Due.is("amount", x.amount(4, 0, 0, 0), -9223372036854775808L);
    Due.is("sum", x.sum(2, 0, 0, 0), -9223372036854775808L);
    Due.is("span", x.span(2, 0, 0), -9223372036854775808L);
    Due.is("get", x.get(4, 0, 0), -9223372036854775808L);
  }

  private static void latestFinding() {
    Due.says("8 the number of the latest FINDING (0 before any)");
    MostSold x = some();
    Due.is("before any", x.count(8), 0);
    x.put(0, 2, 9, 1);
    Due.is("index", x.count(8), 2);
    x.put(0, 2, 8, 1);
    Due.is("what went well leaves it", x.count(8), 2);
    x.title(52);
    x.strike(2, 20);
    x.get(0, 9, 0);
    Due.is("BAD and NOT leave it", x.count(8), 2);
    x.get(2, 0, 0);
    Due.is("null at get", x.count(8), 1);
    x.sheet(2, 0, -9);
    Due.is("size", x.count(8), 5);
    x.copy(0, 0, 1, 0, 1);
    Due.is("store", x.count(8), 4);
    x.get(0, 0, 0);
    Due.is("cast at get", x.count(8), 3);
    x.get(0, 2, 9);
    Due.is("index at get", x.count(8), 2);
    x.read(2);
    Due.is("null at read", x.count(8), 1);
  }
}
