/** The promises' own sections, sentence by sentence, where the terms and the refusals do not tell all of it already. */
public final class EdgesOfCallsTest {
  private static final long LEAST = Long.MIN_VALUE;

  public static void main(String[] args) {
    aNewObject();
    objectsApart();
    emptySaysSo();
    emptyOfEachShopAndWeek();
    emptyNotBehindTold();
    coinsWhatTheyWere();
    readAsManyAsAreWhole();
    readAsLongAsEachMayBe();
    readByMoulds();
    readUntilFull();
    about();
    strikeAndBack();
    asOfWhatItWas();
    sumWhat();
    sureAtMost();
    sureAtLeast();
    sureCutToward0();
    sureOfASumAbove0();
    lineFrom0();
    spanEnds();
    sheetIsANewRow();
    loseWhatItHad();
    putAndGetItems();
    copyComes();
    copyAsTheyWere();
    copyNone();
    copyNotSoMany();
    writeFromItem0();
    writeAsManyAsThereAre();
    writeTheLowestBits();
    writeAFullList();
    countWhat();
    countOfEmpties();
    digestOfCounts();
    digestOfLists();
    digestOfWeeks();
    digestWraps();
    Due.close();
  }

  private static void aNewObject() {
    Due.says("Promise 1: Nothing is told; all SHEETS are LOST");
    MostSold x = new MostSold();
    int[] due = {0, 0, 0, 0, 0, 51, 0, 0, 0};
    for (int what = 0; what < 9; what++) Due.is("count(" + what + ")", x.count(what), due[what]);
    Due.is("fault", x.fault(), 0);
    Due.is("tells", x.tells(0, 0), -2);
    Due.is("coins", x.coins(0, 0), -2);
    for (int s = 0; s < 4; s++) Due.is("lose " + s, x.lose(s), -11);
    for (int w = 0; w < 52; w++) Due.is("list of " + w, x.line(w, w, 0), -1);
  }

  private static void objectsApart() {
    Due.says("Promise 1: what one object is told, another does not know");
    MostSold x = Stage.of(1, 1, "h=5");
    Stage.sold(x, 0, 0, 5, 1);
    x.empty(0, 6, 6);
    x.sheet(0, 0, 5);
    x.asOf(7);
    MostSold y = new MostSold();
    int[] due = {0, 0, 0, 0, 0, 51, 0, 0, 0};
    for (int what = 0; what < 9; what++) Due.is("count(" + what + ")", y.count(what), due[what]);
    Due.is("h", y.rule(0, 0), 100);
    Due.is("lost", y.lose(0), -11);
    Due.is("the first", x.count(3), 1);
  }

  private static void emptySaysSo() {
    Due.says("Promise 6: 1; 0: it said so then, or before");
    MostSold x = Stage.of(1, 1);
    Due.is("first, in 20", x.empty(0, 10, 20), 1);
    Due.is("then", x.empty(0, 10, 20), 0);
    Due.is("a week later", x.empty(0, 10, 21), 0);
    Due.is("in 51", x.empty(0, 10, 51), 0);
    Due.is("a week before", x.empty(0, 10, 19), 1);
    Due.is("then again", x.empty(0, 10, 19), 0);
    Due.is("in 20 again", x.empty(0, 10, 20), 0);
    Due.is("in that week", x.empty(0, 10, 10), 1);
    Due.is("in that week again", x.empty(0, 10, 10), 0);
    Due.is("as it was said first", x.count(7), 1);
    x.asOf(10);
    Due.is("tells as of 10", x.tells(0, 10), 2);
    x.asOf(9);
    Due.is("silent as of 9", x.tells(0, 10), 1);
  }

  private static void emptyOfEachShopAndWeek() {
    Due.says("Promise 6: A SHOP says that it sold nothing in a week");
    MostSold x = Stage.of(1, 16);
    for (int s = 0; s < 16; s++) Due.is("shop " + s, x.empty(s, 51, 51), 1);
    for (int s = 0; s < 16; s++) Due.is("shop " + s + " again", x.empty(s, 51, 51), 0);
    Due.is("shop 0, week 0", x.empty(0, 0, 51), 1);
    Due.is("shop 1, week 0", x.empty(1, 0, 51), 1);
    Due.is("shop 1, week 0 tells", x.tells(1, 0), 2);
    Due.is("shop 2, week 0 is silent", x.tells(2, 0), 1);
    Due.is("count(7)", x.count(7), 18);
    MostSold y = Stage.of(1, 0);
    y.shop(0, 1, 5, 6);
    Due.is("of a week in which it is not open", y.empty(0, 4, 4), 1);
    Due.is("said all the same", y.count(7), 1);
    Stage.sold(y, 0, 0, 5, 3);
    Due.is("of a week in which it sold something", y.empty(0, 5, 5), 1);
    Due.is("and it counts", y.amount(0, 0, 5, 5), 3);
  }

  private static void emptyNotBehindTold() {
    Due.says("Promise 6: in a week (not behind that)");
    Due.is("told that week", Stage.of(1, 1).empty(0, 20, 20), 1);
    Due.is("told a week ahead of it", Stage.of(1, 1).empty(0, 20, 19), -2);
    Due.is("told a week behind it", Stage.of(1, 1).empty(0, 20, 21), 1);
    Due.is("51 told in 51", Stage.of(1, 1).empty(0, 51, 51), 1);
    Due.is("51 told in 0", Stage.of(1, 1).empty(0, 51, 0), -2);
    Due.is("0 told in 51", Stage.of(1, 1).empty(0, 0, 51), 1);
    Due.edges("shop", 0, 2, 1, -2, s -> Stage.of(1, 3).empty(s, 5, 5));
  }

  private static void coinsWhatTheyWere() {
    Due.says("Promise 7: COINS of a SHOP: what they were");
    MostSold x = Stage.of(1, 2);
    Due.is("10 at first", x.coins(0, 0), 10);
    Due.is("0", x.coins(0, 1000), 0);
    Due.is("1000", x.coins(0, 1000), 1000);
    Due.is("1000 again", x.coins(0, 10), 1000);
    Due.is("another shop", x.coins(1, 3), 10);
    Due.is("no shop", new MostSold().coins(0, 3), -2);
  }

  /** A SHEET 0 of so many items, with as many whole SALES in it that may be. */
  private static MostSold sheetOf(int mould, int n) {
    MostSold x = Stage.of(1, 1);
    x.sheet(0, mould, n);
    for (int i = 4; i < n; i += 7) x.put(0, mould, i, 1 + i / 7);
    return x;
  }

  private static void readAsManyAsAreWhole() {
    Due.says("Promise 9: its items, seven for each (as sale()), as many as are whole");
    int[] lengths = {0, 1, 6, 7, 8, 13, 14, 20, 21, 118, 119, 120};
    int[] due = {0, 0, 0, 1, 1, 1, 2, 2, 3, 16, 17, 17};
    for (int i = 0; i < lengths.length; i++) {
      MostSold x = sheetOf(2, lengths[i]);
      Due.is("read " + lengths[i] + " items", x.read(0), due[i]);
      Due.is("count(3) of " + lengths[i], x.count(3), due[i]);
    }
    MostSold x = sheetOf(2, 120);
    x.read(0);
    for (int s = 0; s < 17; s++) Due.is("how many of sale " + s, x.about(s, 4), s + 1);
    Due.is("read again", x.read(0), 17);
    Due.is("count(3)", x.count(3), 34);
    for (int s = 0; s < 4; s++) Due.is("read lost " + s, new MostSold().read(s), -11);
    Due.edges("read", 0, 3, -11, -2, s -> new MostSold().read(s));
  }

  private static void readAsLongAsEachMayBe() {
    Due.says("Promise 9: as long as each may be: how many");
    int[] good = {0, 0, 20, 0, 1, 0, 20};
    int[] below = {-1, -1, -1, -1, 0, -1, 19};
    int[] above = {1, 1, 52, 168, 100001, 4, 52};
    for (int item = 0; item < 7; item++) {
      for (int sale = 0; sale < 3; sale++) {
        for (int wrong : new int[] {below[item], above[item]}) {
          MostSold x = Stage.of(1, 1);
          x.sheet(1, 2, 21);
          for (int i = 0; i < 21; i++) x.put(1, 2, i, good[i % 7]);
          x.put(1, 2, 7 * sale + item, wrong);
          Due.is("item " + item + " of sale " + sale + " is " + wrong, x.read(1), sale);
          Due.is("count(3)", x.count(3), sale);
          Due.is("no finding", x.count(8), 0);
        }
      }
    }
    MostSold y = new MostSold();
    y.sheet(0, 0, 7);
    Due.is("no shops and things", y.read(0), 0);
  }

  private static void readByMoulds() {
    Due.says("Promise 9: its items (as they are by its MOULD)");
    for (int mould = 0; mould < 4; mould++) {
      MostSold x = Stage.of(1, 1);
      x.sheet(0, mould, 7);
      long[] items = {0, 0, 51, 127, 127, 3, 51};
      for (int i = 0; i < 7; i++) x.put(0, mould, i, items[i]);
      Due.is("mould " + mould, x.read(0), 1);
      for (int i = 0; i < 7; i++) Due.is("what " + i + " by mould " + mould, x.about(0, i), items[i]);
      x.put(0, mould, 3, 167);
      Due.is("hour 167 by mould " + mould, x.read(0), mould == 0 ? 0 : 1);
      x.put(0, mould, 3, 0);
      x.put(0, mould, 4, 100000);
      int taken = x.read(0);
      Due.is("100000 by mould " + mould, taken, mould < 2 ? 0 : 1);
    }
    MostSold y = Stage.of(1, 1);
    y.sheet(0, 3, 7);
    y.put(0, 3, 4, (1L << 32) + 1);
    Due.is("a long whose lowest bits would do", y.read(0), 0);
    y.put(0, 3, 4, 1);
    y.put(0, 3, 0, 1L << 32);
    Due.is("a long whose lowest bits would do, as a shop", y.read(0), 0);
    y.put(0, 3, 0, LEAST);
    Due.is("the least long", y.read(0), 0);
  }

  private static void readUntilFull() {
    Due.says("Promise 9: as long as each may be: 150 at most");
    MostSold x = sheetOf(0, 119);
    for (int i = 0; i < 8; i++) Due.is("seventeen, " + i, x.read(0), 17);
    Due.is("136", x.count(3), 136);
    Due.is("fourteen more", x.read(0), 14);
    Due.is("150", x.count(3), 150);
    Due.is("none more", x.read(0), 0);
    Due.is("150 still", x.count(3), 150);
    Due.is("the last", x.about(149, 4), 14);
  }

  private static void about() {
    Due.says("Promise 10: 0 SHOP, 1 THING, 2 WEEK, 3 HOUR, 4 how many, 5 SORT, 6 TOLD, 7 STRUCK (NONE), 8 whether it is KNOWN");
    MostSold x = Stage.of(3, 4);
    x.sale(3, 2, 10, 167, 100000, 3, 20);
    int[] due = {3, 2, 10, 167, 100000, 3, 20, -1, 1};
    for (int what = 0; what < 9; what++) Due.is("what " + what, x.about(0, what), due[what]);
    x.strike(0, 30);
    Due.is("struck", x.about(0, 7), 30);
    Due.is("known", x.about(0, 8), 0);
    Due.says("Promise 10: BAD: -1000");
    for (int what : new int[] {-1, 9, Integer.MIN_VALUE, Integer.MAX_VALUE}) Due.is("what " + what, x.about(0, what), -1000);
    for (int what = 0; what < 9; what++) {
      Due.is("sale 1, what " + what, x.about(1, what), -1000);
      Due.is("sale -1, what " + what, x.about(-1, what), -1000);
    }
    Due.is("no sales", new MostSold().about(0, 7), -1000);
  }

  private static void strikeAndBack() {
    Due.says("Promises 11, 12: BAD; NOT: it is already, or that is ahead of when it was TOLD; NOT: it is not");
    MostSold x = Stage.of(1, 1);
    x.sale(0, 0, 10, 0, 1, 0, 20);
    x.sale(0, 0, 10, 0, 2, 0, 20);
    Due.edges("strike sale", 0, 1, -3, -2, s -> x.strike(s, 19));
    Due.edges("back sale", 0, 1, -3, -2, s -> x.back(s));
    Due.is("strike the second", x.strike(1, 20), 1);
    Due.is("the first is as it was", x.about(0, 7), -1);
    Due.is("again in the same week", x.strike(1, 20), -3);
    Due.is("again later", x.strike(1, 51), -3);
    Due.is("it is as it was", x.about(1, 7), 20);
    Due.is("the first one back", x.back(0), -3);
    Due.is("the second one back", x.back(1), 20);
    x.asOf(19);
    Due.is("one that is not known may be struck", x.strike(0, 25), 1);
    Due.is("and put back", x.back(0), 25);
  }

  private static void asOfWhatItWas() {
    Due.says("Promise 13: AS OF a WEEK: what it was");
    MostSold x = new MostSold();
    Due.is("51 at first", x.asOf(0), 51);
    Due.is("0", x.asOf(51), 0);
    Due.is("51", x.asOf(50), 51);
    Due.is("refused", x.asOf(52), -2);
    Due.is("50", x.asOf(50), 50);
    Due.is("count(5)", x.count(5), 50);
  }

  private static void sumWhat() {
    Due.says("Promise 20: 0 SUM, 1 TOLD, 2 FORETOLD");
    MostSold x = Stage.of(1, 0);
    x.shop(0, 1, 0, 51);
    x.shop(0, 2, 0, 51);
    Stage.sold(x, 0, 0, 5, 1);
    long[] due = {300, 100, 200};
    for (int what = 0; what < 3; what++) Due.is("what " + what, x.sum(0, 5, 5, what), due[what]);
    for (int what : new int[] {-1, 3, Integer.MIN_VALUE, Integer.MAX_VALUE}) Due.is("what " + what, x.sum(0, 5, 5, what), LEAST);
    Due.is("no titles", new MostSold().sum(0, 5, 5, 0), LEAST);
    Due.edges("title", 0, 2, 0, LEAST, t -> Stage.of(3, 1).sum(t, 5, 5, 0));
  }

  /** TOLD a less b; FORETOLD a times sizeA less b times sizeB; all in single hundredths. A size of 0: no SHOP that is SILENT. */
  private static MostSold told(int a, int sizeA, int b, int sizeB) {
    MostSold x = Stage.of(1, 0, "k0=1;k1=1");
    x.shop(0, 1, 0, 51);
    x.shop(1, 1, 0, 51);
    for (int left = sizeA; left > 0; left -= 100) x.shop(0, Math.min(100, left), 0, 51);
    for (int left = sizeB; left > 0; left -= 100) x.shop(1, Math.min(100, left), 0, 51);
    if (a > 0) Stage.sold(x, 0, 0, 5, a);
    if (b > 0) Stage.sale(x, 1, 0, 5, b, Stage.BACK);
    Due.is("told", x.sum(0, 5, 5, 1), a - b);
    Due.is("sum", x.sum(0, 5, 5, 0), a - b + (long) a * sizeA - (long) b * sizeB);
    return x;
  }

  private static void sureAtMost() {
    Due.says("Promise 21: 1000000 at most");
    Due.is("99 by 1", told(100, 0, 1, 98).sure(0, 5), 990000);
    Due.is("100 by 1", told(101, 0, 1, 99).sure(0, 5), 1000000);
    Due.is("101 by 1", told(102, 0, 1, 100).sure(0, 5), 1000000);
    Due.is("201 by 2: 1005000", told(202, 0, 1, 199).sure(0, 5), 1000000);
    Due.is("1400 by 1", told(1401, 0, 1, 1399).sure(0, 5), 1000000);
  }

  private static void sureAtLeast() {
    Due.says("Promise 21: -1000000 at least");
    Due.is("-99 by 1", told(1, 100, 100, 0).sure(0, 5), -990000);
    Due.is("-100 by 1", told(1, 101, 101, 0).sure(0, 5), -1000000);
    Due.is("-101 by 1", told(1, 102, 102, 0).sure(0, 5), -1000000);
    Due.is("-1300 by 1", told(1, 1301, 1301, 0).sure(0, 5), -1000000);
  }

  private static void sureCutToward0() {
    Due.says("Promise 21: 10000 times TOLD by SUM, cut toward 0");
    Due.is("1 by 3", told(1, 2, 0, 0).sure(0, 5), 3333);
    Due.is("2 by 3", told(3, 1, 1, 2).sure(0, 5), 6666);
    Due.is("-1 by 3", told(1, 4, 2, 0).sure(0, 5), -3333);
    Due.is("-2 by 3", told(1, 5, 3, 0).sure(0, 5), -6666);
    Due.is("0 by 1", told(1, 1, 1, 0).sure(0, 5), 0);
    Due.is("1 by 1", told(1, 0, 0, 0).sure(0, 5), 10000);
    Due.is("1 by 10001", told(1, 1400, 0, 0).sure(0, 5), 7);
    Due.is("20001 by 2 is 100005000", told(20002, 0, 1, 1).sure(0, 5), 10000);
  }

  private static void sureOfASumAbove0() {
    Due.says("Promise 21: NOT: the SUM is not above 0");
    Due.is("1", told(1, 0, 0, 0).sure(0, 5), 10000);
    Due.is("0", told(1, 0, 1, 0).sure(0, 5), -3);
    Due.is("-1", told(1, 0, 2, 0).sure(0, 5), -3);
    Due.is("told above 0, the sum 0", told(3, 0, 1, 2).sure(0, 5), -3);
    Due.is("nothing told", told(0, 0, 0, 0).sure(0, 5), -3);
    Due.edges("title", 0, 2, -3, -2, t -> Stage.of(3, 1).sure(t, 5));
    MostSold x = new MostSold();
    x.title(6);
    x.thing(0, 0, 0);
    x.shop(0, 1, 0, 51);
    Stage.sold(x, 0, 0, 5, 1);
    Due.is("of one that did not come out yet", x.sure(0, 5), 10000);
  }

  private static void lineFrom0() {
    Due.says("Promise 23: The i-th TITLE of THE LIST (from 0); NONE. BAD: also i below 0");
    MostSold x = Stage.of(2, 1);
    Stage.sold(x, 0, 1, 5, 1);
    int[] lines = {Integer.MIN_VALUE, -1, 0, 1, 2, 12, Integer.MAX_VALUE};
    int[] due = {-2, -2, 1, -1, -1, -1, -1};
    for (int i = 0; i < lines.length; i++) Due.is("line " + lines[i], x.line(5, 5, lines[i]), due[i]);
    Due.says("Promise 22: NONE. BAD");
    Due.is("place of one that is not in it", x.place(0, 5, 5), -1);
    Due.edges("place", 0, 2, -1, -2, t -> Stage.of(3, 1).place(t, 5, 5));
  }

  private static void spanEnds() {
    Due.says("Promise 24: the least (end = 0), the greatest (1). BAD: the least long");
    MostSold x = Stage.of(2, 2);
    Stage.sold(x, 0, 0, 5, 1);
    long[] due = {LEAST, 0, 200, LEAST};
    for (int end = -1; end <= 2; end++) Due.is("end " + end, x.span(0, 5, end), due[end + 1]);
    Due.is("the greatest end", x.span(0, 5, Integer.MAX_VALUE), LEAST);
    Due.is("the least end", x.span(0, 5, Integer.MIN_VALUE), LEAST);
    Due.edges("title", 0, 1, 0, LEAST, t -> Stage.of(2, 2).span(t, 5, 0));
  }

  private static void sheetIsANewRow() {
    Due.says("Promise 33: A SHEET is a new row of a MOULD with n items: n");
    MostSold x = new MostSold();
    x.sheet(1, 3, 120);
    for (int i = 0; i < 120; i += 119) x.put(1, 3, i, LEAST);
    Due.is("shorter, of another mould", x.sheet(1, 0, 3), 3);
    for (int i = 0; i < 3; i++) Due.is("item " + i, x.get(1, 0, i), 0);
    Due.is("item 3 is none", x.put(1, 0, 3, 1), -12);
    Due.is("longer again", x.sheet(1, 3, 120), 120);
    for (int i = 0; i < 120; i += 119) Due.is("item " + i + " of the new row", x.get(1, 3, i), 0);
    x.put(1, 3, 5, 7);
    Due.is("too long", x.sheet(1, 3, 121), -2);
    Due.is("the row as it was", x.get(1, 3, 5), 7);
    Due.is("none", x.sheet(1, 3, 0), 0);
    Due.is("it is not lost", x.write(1, 5), 0);
  }

  private static void loseWhatItHad() {
    Due.says("Promise 34: It is LOST: how many items it had");
    for (int n : new int[] {0, 1, 119, 120}) {
      MostSold x = new MostSold();
      x.sheet(3, 1, n);
      Due.is("of " + n, x.lose(3), n);
      Due.is("lost", x.lose(3), -11);
      Due.is("put", x.put(3, 1, 0, 1), -11);
    }
    MostSold y = new MostSold();
    y.sheet(0, 1, 4);
    y.put(0, 1, 0, 9);
    y.lose(0);
    y.sheet(0, 1, 4);
    Due.is("nothing is left of the row that was lost", y.get(0, 1, 0), 0);
    y.sheet(1, 1, 4);
    y.lose(0);
    Due.is("another is not lost", y.lose(1), 4);
  }

  private static void putAndGetItems() {
    Due.says("Promises 35, 36: Item i; INDEX: there is no such item");
    MostSold x = new MostSold();
    x.sheet(2, 3, 5);
    Due.edges("put", 0, 4, 1, -12, i -> x.put(2, 3, i, 10 + i));
    Due.is("item 0", x.get(2, 3, 0), 10);
    Due.is("item 1", x.get(2, 3, 1), 0);
    Due.is("item 4", x.get(2, 3, 4), 14);
    for (int i : new int[] {-1, 5, Integer.MIN_VALUE, Integer.MAX_VALUE}) Due.is("get " + i, x.get(2, 3, i), LEAST);
    Due.edges("put in a sheet that is lost", 0, 3, -11, -2, s -> new MostSold().put(s, 0, 0, 1));
    Due.edges("get of a sheet that is lost", 0, 3, LEAST, LEAST, s -> new MostSold().get(s, 0, 0));
    Due.edges("put by a mould, lost", 0, 3, -11, -2, m -> new MostSold().put(0, m, 0, 1));
    for (int m = 0; m < 3; m++) Due.is("put by mould " + m, x.put(2, m, 0, 1), -13);
  }

  private static MostSold rows() {
    MostSold x = new MostSold();
    x.sheet(0, 2, 6);
    x.sheet(3, 2, 4);
    for (int i = 0; i < 6; i++) x.put(0, 2, i, 10 + i);
    for (int i = 0; i < 4; i++) x.put(3, 2, i, 30 + i);
    return x;
  }

  private static void row(MostSold x, int s, int... due) {
    for (int i = 0; i < due.length; i++) Due.is("item " + i + " of sheet " + s, x.get(s, 2, i), due[i]);
  }

  private static void copyComes() {
    Due.says("Promise 37: n items of SHEET s, from i on, come to SHEET t, from j on: 1");
    MostSold x = rows();
    Due.is("the last two to the last two", x.copy(0, 4, 3, 2, 2), 1);
    row(x, 3, 30, 31, 14, 15);
    row(x, 0, 10, 11, 12, 13, 14, 15);
    Due.is("the first two to the first two", x.copy(0, 0, 3, 0, 2), 1);
    row(x, 3, 10, 11, 14, 15);
    Due.is("all there are", x.copy(3, 0, 0, 2, 4), 1);
    row(x, 0, 10, 11, 10, 11, 14, 15);
    for (int mould = 0; mould < 4; mould++) {
      MostSold y = new MostSold();
      y.sheet(0, mould, 1);
      y.sheet(1, mould, 1);
      y.put(0, mould, 0, -7);
      Due.is("copy by mould " + mould, y.copy(0, 0, 1, 0, 1), 1);
      Due.is("item by mould " + mould, y.get(1, mould, 0), -7);
    }
    MostSold z = new MostSold();
    z.sheet(0, 3, 120);
    z.sheet(1, 3, 120);
    for (int i = 0; i < 120; i++) z.put(0, 3, i, i * i);
    Due.is("120 items", z.copy(0, 0, 1, 0, 120), 1);
    for (int i = 0; i < 120; i++) Due.is("item " + i, z.get(1, 3, i), i * i);
    Due.is("121 items", z.copy(0, 0, 1, 0, 121), -12);
  }

  private static void copyAsTheyWere() {
    Due.says("Promise 37: (perhaps s, as they were)");
    MostSold x = rows();
    Due.is("one up", x.copy(0, 0, 0, 1, 5), 1);
    row(x, 0, 10, 10, 11, 12, 13, 14);
    x = rows();
    Due.is("one down", x.copy(0, 1, 0, 0, 5), 1);
    row(x, 0, 11, 12, 13, 14, 15, 15);
    x = rows();
    Due.is("onto itself", x.copy(0, 0, 0, 0, 6), 1);
    row(x, 0, 10, 11, 12, 13, 14, 15);
    x = rows();
    Due.is("three up", x.copy(0, 0, 0, 2, 4), 1);
    row(x, 0, 10, 11, 10, 11, 12, 13);
  }

  private static void copyNone() {
    Due.says("Promise 37: n items: none");
    MostSold x = rows();
    Due.is("none at the start", x.copy(0, 0, 3, 0, 0), 1);
    Due.is("none behind the last", x.copy(0, 6, 3, 4, 0), 1);
    Due.is("none from one further", x.copy(0, 7, 3, 4, 0), -12);
    Due.is("none to one further", x.copy(0, 6, 3, 5, 0), -12);
    Due.is("none from -1", x.copy(0, -1, 3, 0, 0), -12);
    row(x, 0, 10, 11, 12, 13, 14, 15);
    row(x, 3, 30, 31, 32, 33);
    MostSold y = new MostSold();
    y.sheet(0, 0, 0);
    Due.is("none of none", y.copy(0, 0, 0, 0, 0), 1);
    Due.is("one of none", y.copy(0, 0, 0, 0, 1), -12);
  }

  private static void copyNotSoMany() {
    Due.says("Promise 37: INDEX: below 0, not so many");
    MostSold x = rows();
    int far = Integer.MAX_VALUE;
    int[][] bad = {
      {-1, 0, 1}, {0, -1, 1}, {0, 0, -1}, {6, 0, 1}, {0, 4, 1}, {3, 0, 4}, {0, 1, 4}, {0, 0, 5}, {5, 0, 2}, {0, 3, 2},
      {far, 0, 1}, {0, far, 1}, {0, 0, far}, {far, 0, far}, {0, far, far}, {1, 1, far}, {Integer.MIN_VALUE, 0, 1},
      {0, Integer.MIN_VALUE, 1}, {0, 0, Integer.MIN_VALUE}, {far, far, Integer.MIN_VALUE}};
    for (int[] b : bad) Due.is("from " + b[0] + " to " + b[1] + ", " + b[2], x.copy(0, b[0], 3, b[1], b[2]), -12);
    row(x, 3, 30, 31, 32, 33);
    Due.is("the last one", x.copy(0, 5, 3, 3, 1), 1);
    row(x, 3, 30, 31, 32, 15);
  }

  private static MostSold list(int titles) {
    MostSold x = Stage.of(titles, 1);
    for (int t = 0; t < titles; t++) Stage.sold(x, 0, t, 5, 1 + t);
    return x;
  }

  private static void writeFromItem0() {
    Due.says("Promise 38: comes to a SHEET from item 0 on: a TITLE and its SUM, one behind the other");
    MostSold x = list(2);
    x.sheet(0, 2, 6);
    for (int i = 0; i < 6; i++) x.put(0, 2, i, 77);
    Due.is("write", x.write(0, 5), 4);
    row(x, 0, 1, 200, 0, 100, 77, 77);
    Due.is("an empty list", x.write(0, 6), 0);
    row(x, 0, 1, 200, 0, 100, 77, 77);
    Due.typeAll(x, "k0=200@5;k0=300@6");
    Due.is("by its own rules", x.write(0, 5), 4);
    row(x, 0, 1, 400, 0, 200, 77, 77);
    Due.edges("sheet", 0, 3, -11, -2, s -> new MostSold().write(s, 5));
  }

  private static void writeAsManyAsThereAre() {
    Due.says("Promise 38: as many as there are items: how many items");
    for (int n = 0; n <= 8; n++) {
      MostSold x = list(3);
      x.sheet(0, 2, n);
      Due.is("a sheet of " + n, x.write(0, 5), Math.min(n, 6));
      int[] due = {2, 300, 1, 200, 0, 100, 0, 0};
      for (int i = 0; i < n; i++) Due.is("item " + i + " of " + n, x.get(0, 2, i), due[i]);
      Due.is("its length", x.lose(0), n);
    }
  }

  private static void writeTheLowestBits() {
    Due.says("Promise 38: (the lowest bits)");
    MostSold x = Stage.of(1, 1, "f0=500;k0=500");
    for (int i = 0; i < 10; i++) Stage.sold(x, 0, 0, 5, 99999);
    long sum = 999990L * 2500;
    long[] due = {(byte) sum, (short) sum, (int) sum, sum};
    for (int mould = 0; mould < 4; mould++) {
      x.sheet(mould, mould, 2);
      Due.is("write", x.write(mould, 5), 2);
      Due.is("title by mould " + mould, x.get(mould, mould, 0), 0);
      Due.is("sum by mould " + mould, x.get(mould, mould, 1), due[mould]);
    }
    Due.is("as an int it is another", due[2] == sum ? 1 : 0, 0);
    MostSold y = Stage.of(1, 1, "k0=1");
    Stage.sold(y, 0, 0, 5, 128);
    y.sheet(0, 0, 2);
    y.write(0, 5);
    Due.is("128 as a byte", y.get(0, 0, 1), -128);
  }

  private static void writeAFullList() {
    Due.says("Promise 38: THE LIST, twelve TITLES");
    MostSold x = list(12);
    x.sheet(0, 2, 120);
    Due.is("write", x.write(0, 5), 24);
    for (int i = 0; i < 12; i++) Due.is("title " + i, x.get(0, 2, 2 * i), 11 - i);
    for (int i = 0; i < 12; i++) Due.is("sum " + i, x.get(0, 2, 2 * i + 1), 100 * (12 - i));
    Due.is("no more", x.get(0, 2, 24), 0);
  }

  private static void countWhat() {
    Due.says("Promise 39: 0 TITLES, 1 THINGS, 2 SHOPS, 3 SALES, 4 KNOWN ones, 5 AS OF, 6 bytes of RULES, 7 EMPTY, 8 FINDING");
    MostSold x = Stage.of(2, 3);
    x.thing(0, 0, 0);
    x.thing(0, 0, 0);
    for (int i = 0; i < 5; i++) x.sale(0, 0, 5, 0, 1, 0, 10 + i);
    x.asOf(12);
    x.strike(0, 12);
    Due.typeAll(x, "abcdefg");
    for (int i = 0; i < 8; i++) x.empty(1, i, 51);
    x.lose(0);
    int[] due = {2, 4, 3, 5, 2, 12, 7, 8, 1};
    for (int what = 0; what < 9; what++) Due.is("what " + what, x.count(what), due[what]);
    for (int what : new int[] {-1, 9, Integer.MIN_VALUE, Integer.MAX_VALUE}) Due.is("what " + what, x.count(what), -2);
  }

  private static void countOfEmpties() {
    Due.says("Promise 39: 7 how many SHOPS and WEEKS are said to be EMPTY");
    MostSold x = Stage.of(1, 2);
    x.empty(0, 5, 20);
    x.empty(0, 5, 20);
    x.empty(0, 5, 30);
    Due.is("said twice more, it is one", x.count(7), 1);
    x.empty(0, 5, 10);
    Due.is("said before, it is one", x.count(7), 1);
    x.empty(1, 5, 20);
    x.empty(0, 6, 20);
    Due.is("another shop, another week", x.count(7), 3);
    x.empty(0, 6, 5);
    Due.is("refused", x.count(7), 3);
  }

  private static long hash(long... items) {
    long h = 17;
    for (long item : items) h = 31 * h + item;
    return h;
  }

  private static void digestOfCounts() {
    Due.says("Promise 40: h is 17; h becomes 31 h and each of: count() 0 to 7; fault()");
    MostSold x = new MostSold();
    Due.is("of nothing", x.digest(), hash(0, 0, 0, 0, 0, 51, 0, 0, 0, 0, 0, 0, 0, 0, 0, 0, 0, 0, 0, 0));
    x.lose(0);
    Due.is("count(8) is not of it", x.digest(), hash(0, 0, 0, 0, 0, 51, 0, 0, 0, 0, 0, 0, 0, 0, 0, 0, 0, 0, 0, 0));
    MostSold y = Stage.of(2, 3, "h=1");
    y.thing(0, 0, 0);
    y.sale(0, 0, 51, 0, 1, 0, 51);
    y.sale(0, 0, 51, 0, 1, 0, 51);
    y.strike(1, 51);
    y.empty(1, 1, 1);
    y.asOf(51);
    Due.is("of some", y.digest(), hash(2, 3, 3, 2, 1, 51, 3, 1, -1, 0, 0, 0, 0, 0, 0, 0, 0, 0, 0, 0));
    y.asOf(50);
    y.type('x');
    Due.is("as of 50, with a fault", y.digest(), hash(2, 3, 3, 2, 0, 50, 4, 1, 3, 0, 0, 0, 0, 0, 0, 0, 0, 0, 0, 0));
  }

  private static void digestOfLists() {
    Due.says("Promise 40: how many TITLES are in THE LIST by its own RULES, then each in order, its SUM");
    MostSold x = Stage.of(3, 1, "k0=200@10;t=1@10");
    Stage.sold(x, 0, 0, 5, 1);
    Stage.sold(x, 0, 2, 5, 2);
    Stage.sold(x, 0, 1, 10, 3);
    Due.is("digest", x.digest(), hash(3, 3, 1, 3, 3, 51, 16, 0, -1, 0, 2, 2, 200, 0, 100, 1, 1, 600, 0, 0, 0, 0, 0, 0, 0, 0));
  }

  private static void digestOfWeeks() {
    Due.says("Promise 40: of WEEKS 0, 5, .. 50");
    for (int w = 0; w < 52; w++) {
      MostSold x = Stage.of(1, 1);
      Stage.sold(x, 0, 0, w, 1);
      long h = hash(1, 1, 1, 1, 1, 51, 0, 0, 0);
      for (int week = 0; week <= 50; week += 5) {
        h = 31 * h + (week == w ? 1 : 0);
        if (week == w) h = 31 * (31 * h + 0) + 100;
      }
      Due.is("sold in " + w, x.digest(), h);
    }
  }

  private static void digestWraps() {
    Due.says("Promise 40: as longs that wrap");
    MostSold x = Stage.of(12, 1, "f0=500;k0=500");
    for (int t = 0; t < 12; t++) for (int w = 0; w <= 50; w += 5) Stage.sold(x, 0, t, w, 100000);
    long h = hash(12, 12, 1, 132, 132, 51, 13, 0, -1);
    for (int w = 0; w <= 50; w += 5) {
      h = 31 * h + 12;
      for (int t = 0; t < 12; t++) h = 31 * (31 * h + t) + 250000000L;
    }
    Due.is("full lists", x.digest(), h);
  }
}
