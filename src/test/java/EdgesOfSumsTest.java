/** The document's third part of terms, sentence by sentence: what COUNTS, AMOUNTS, TOLD, FORETOLD, SUMS, THE LIST and its ties. */
public final class EdgesOfSumsTest {
  public static void main(String[] args) {
    countIfKnown();
    toldAtMostLBehind();
    hoursFromOToC();
    soldInW();
    bundlesIfB();
    heardByHCut();
    heardTogether();
    backInWAndR();
    backIf51AtMost();
    amountBelow0();
    comesToHundredths();
    cutToward0();
    eachThingOfEachShopIsCut();
    greatestAmounts();
    toldOfShopsThatTell();
    toldOfItsThings();
    toldAtItsKind();
    foretoldBySizes();
    foretoldCutToward0();
    foretoldIfNoneTells();
    foretoldOfEachKind();
    sumIsBoth();
    listCameOutInWOrBefore();
    listSumAbove0();
    listGreatestFirst();
    listEmptyAndFull();
    tiesByNumber();
    tiesByOut();
    tiesThatShare();
    tiesByTheRulesAsked();
    rulesOfAnotherWeek();
    asItWasKnown();
    Due.close();
  }

  private static void countIfKnown() {
    Due.says("SALES that COUNT are those that are KNOWN");
    MostSold x = Stage.of(1, 1);
    x.sale(0, 0, 5, 0, 4, 0, 20);
    x.strike(0, 30);
    int[] weeks = {19, 20, 29, 30};
    int[] due = {0, 4, 4, 0};
    for (int i = 0; i < 4; i++) {
      x.asOf(weeks[i]);
      Due.is("amount as of " + weeks[i], x.amount(0, 0, 5, 5), due[i]);
    }
  }

  private static void toldAtMostLBehind() {
    Due.says("TOLD at most l behind their own WEEK");
    for (int l : new int[] {0, 1, 7, 50}) {
      MostSold x = Stage.of(1, 1, "l=" + l);
      x.sale(0, 0, 0, 0, 1, 0, l);
      x.sale(0, 0, 0, 0, 10, 0, l + 1);
      if (l > 0) x.sale(0, 0, 0, 0, 100, 0, l - 1);
      Due.is("amount by l " + l, x.amount(0, 0, 0, 0), l > 0 ? 101 : 1);
      Due.is("what does not count makes it tell", x.tells(0, 0), 2);
    }
    MostSold x = Stage.of(1, 1, "l=51");
    x.sale(0, 0, 0, 0, 1, 0, 51);
    Due.is("51 behind", x.amount(0, 0, 0, 0), 1);
    MostSold y = Stage.of(1, 1);
    y.sale(0, 0, 0, 0, 1, 0, 51);
    Due.is("51 behind, otherwise", y.amount(0, 0, 0, 0), 1);
    MostSold z = Stage.of(1, 1, "l=2");
    z.sale(0, 0, 40, 0, 1, 0, 42);
    z.sale(0, 0, 40, 0, 10, 0, 43);
    Due.is("behind its own week, not behind 0", z.amount(0, 0, 40, 40), 1);
  }

  private static void hoursFromOToC() {
    Due.says("with HOURS from o to c");
    int[][] rules = {{30, 40}, {40, 40}, {0, 0}, {167, 167}, {0, 167}, {41, 40}, {167, 0}, {1, 166}};
    int[] hours = {0, 1, 29, 30, 39, 40, 41, 166, 167};
    for (int[] r : rules) {
      MostSold x = Stage.of(1, 1, "o=" + r[0] + ";c=" + r[1]);
      int due = 0;
      for (int i = 0; i < hours.length; i++) {
        x.sale(0, 0, 5, hours[i], 1 << i, 0, 5);
        if (hours[i] >= r[0] && hours[i] <= r[1]) due |= 1 << i;
      }
      Due.is("which hours count, from " + r[0] + " to " + r[1], x.amount(0, 0, 5, 5), due);
    }
  }

  private static void soldInW() {
    Due.says("those SOLD in w");
    MostSold x = Stage.of(2, 2);
    int[] weeks = {4, 5, 6};
    for (int w : weeks) Stage.sold(x, 0, 0, w, w);
    Stage.sold(x, 1, 0, 5, 100);
    Stage.sold(x, 0, 1, 5, 1000);
    for (int w : weeks) Due.is("in " + w, x.amount(0, 0, w, 0), w);
    Due.is("in 3", x.amount(0, 0, 3, 0), 0);
    Due.is("in 7", x.amount(0, 0, 7, 0), 0);
    Due.is("another shop", x.amount(1, 0, 5, 0), 100);
    Due.is("another thing", x.amount(0, 1, 5, 0), 1000);
    Due.is("another shop and thing", x.amount(1, 1, 5, 0), 0);
    Stage.sold(x, 0, 0, 0, 7);
    Stage.sold(x, 0, 0, 51, 8);
    Due.is("in the first week", x.amount(0, 0, 0, 0), 7);
    Due.is("in the last week", x.amount(0, 0, 51, 0), 8);
  }

  private static void bundlesIfB() {
    Due.says("those in BUNDLES of w (if b)");
    MostSold x = Stage.of(1, 1, "b=0@1;b=1@2");
    for (int w = 4; w <= 6; w++) Stage.sale(x, 0, 0, w, w, Stage.BUNDLE);
    Due.is("otherwise", x.amount(0, 0, 5, 0), 5);
    Due.is("b 0", x.amount(0, 0, 5, 1), 0);
    Due.is("b 1", x.amount(0, 0, 5, 2), 5);
    int[] others = {100, 1, 0, -100};
    for (int sort : new int[] {Stage.SOLD, Stage.HEARD, Stage.BACK}) {
      MostSold y = Stage.of(1, 1, "b=0");
      Stage.sale(y, 0, 0, 5, 100, sort);
      Due.is("sort " + sort + " with b 0", y.amount(0, 0, 5, 5), others[sort]);
    }
  }

  private static void heardByHCut() {
    Due.says("and HEARD of w by h, cut");
    int[][] due = {{1, 1, 1}, {1, 7, 7}, {7, 6, 0}, {7, 7, 1}, {7, 13, 1}, {7, 14, 2}, {9999, 9998, 0}, {9999, 9999, 1}, {9999, 19997, 1}, {9999, 19998, 2}};
    for (int[] d : due) {
      MostSold x = Stage.of(1, 1, "h=" + d[0]);
      Stage.sale(x, 0, 0, 5, d[1], Stage.HEARD);
      Stage.sale(x, 0, 0, 4, 90000, Stage.HEARD);
      Due.is(d[1] + " heard by " + d[0], x.amount(0, 0, 5, 5), d[2]);
    }
    MostSold y = Stage.of(1, 1);
    Stage.sale(y, 0, 0, 5, 99, Stage.HEARD);
    Due.is("99 by what is so otherwise", y.amount(0, 0, 5, 5), 0);
    Stage.sale(y, 0, 0, 5, 1, Stage.HEARD);
    Due.is("100 by what is so otherwise", y.amount(0, 0, 5, 5), 1);
  }

  private static void heardTogether() {
    Due.says("HEARD of w by h, cut: those of a SHOP and a THING together");
    MostSold x = Stage.of(2, 2, "h=10");
    for (int i = 0; i < 3; i++) x.sale(0, 0, 5, i, 4, Stage.HEARD, 5);
    x.sale(1, 0, 5, 0, 9, Stage.HEARD, 5);
    x.sale(0, 1, 5, 0, 9, Stage.HEARD, 5);
    Due.is("4 and 4 and 4", x.amount(0, 0, 5, 5), 1);
    Due.is("9 at another shop", x.amount(1, 0, 5, 5), 0);
    Due.is("9 of another thing", x.amount(0, 1, 5, 5), 0);
    Stage.sale(x, 0, 0, 5, 2, Stage.BACK);
    Due.is("cut ahead of what is taken off", x.amount(0, 0, 5, 5), -1);
  }

  private static void backInWAndR() {
    Due.says("less those brought BACK in the WEEK w and r");
    for (int r : new int[] {0, 1, 20, 51}) {
      MostSold x = Stage.of(1, 1, "r=" + r);
      for (int w = 0; w < 52; w++) Stage.sale(x, 0, 0, w, 1 + w, Stage.BACK);
      for (int w = 0; w < 52; w++) {
        Due.is("in " + w + " by r " + r, x.amount(0, 0, w, 0), w + r <= 51 ? -(1 + w + r) : 0);
      }
    }
  }

  private static void backIf51AtMost() {
    Due.says("(if that is 51 at most)");
    MostSold x = Stage.of(1, 1, "r=2");
    Stage.sale(x, 0, 0, 51, 3, Stage.BACK);
    Stage.sale(x, 0, 0, 0, 4, Stage.BACK);
    Stage.sale(x, 0, 0, 1, 5, Stage.BACK);
    Due.is("49 and 2", x.amount(0, 0, 49, 0), -3);
    Due.is("50 and 2", x.amount(0, 0, 50, 0), 0);
    Due.is("51 and 2", x.amount(0, 0, 51, 0), 0);
  }

  private static void amountBelow0() {
    Due.says("less those brought BACK: an AMOUNT may be 0 or below");
    MostSold x = Stage.of(1, 1);
    Stage.sold(x, 0, 0, 5, 7);
    Stage.sale(x, 0, 0, 5, 7, Stage.BACK);
    Due.is("nothing left", x.amount(0, 0, 5, 5), 0);
    Stage.sale(x, 0, 0, 5, 1, Stage.BACK);
    Due.is("below 0", x.amount(0, 0, 5, 5), -1);
    Due.is("sum below 0", x.sum(0, 5, 5, 0), -100);
  }

  /** What one AMOUNT comes to by f and k. */
  private static void hundredths(int amount, int f, int k, long due) {
    MostSold x = Stage.of(1, 1, "f0=" + f + ";k0=" + k);
    Stage.sale(x, 0, 0, 5, Math.abs(amount), amount < 0 ? Stage.BACK : Stage.SOLD);
    Due.is(amount + " by f " + f + " and k " + k, x.sum(0, 5, 5, 1), due);
  }

  private static void comesToHundredths() {
    Due.says("AMOUNT times f of its FORM times k of its KIND by 100 (so hundredths)");
    hundredths(7, 100, 100, 700);
    hundredths(7, 0, 100, 0);
    hundredths(7, 100, 0, 0);
    hundredths(7, 500, 100, 3500);
    hundredths(7, 100, 500, 3500);
    hundredths(7, 500, 500, 17500);
    hundredths(1, 1, 100, 1);
    hundredths(100000, 500, 500, 250000000);
    MostSold x = new MostSold();
    x.title(0);
    Due.rules(x, "f0=2;f1=3;f2=5;f3=7;k0=100;k1=200;k2=300;k3=400");
    for (int i = 0; i < 4; i++) {
      x.thing(0, i, 0);
      x.shop(i, 1, 0, 51);
    }
    int[] f = {2, 3, 5, 7};
    long due = 0;
    for (int i = 0; i < 4; i++) {
      Stage.sold(x, 3 - i, i, 5, 10);
      due += 10 * f[i] * (4 - i);
      Due.is("told with form " + i + " at kind " + (3 - i), x.sum(0, 5, 5, 1), due);
    }
  }

  private static void cutToward0() {
    Due.says("by 100, cut toward 0");
    hundredths(1, 1, 99, 0);
    hundredths(-1, 1, 99, 0);
    hundredths(1, 1, 199, 1);
    hundredths(-1, 1, 199, -1);
    hundredths(1, 1, 100, 1);
    hundredths(-1, 1, 100, -1);
    hundredths(99, 1, 1, 0);
    hundredths(-99, 1, 1, 0);
    hundredths(100, 1, 1, 1);
    hundredths(-100, 1, 1, -1);
    hundredths(-101, 1, 1, -1);
  }

  private static void eachThingOfEachShopIsCut() {
    Due.says("It comes to AMOUNT times f times k by 100, cut: each SHOP's AMOUNT of each THING");
    MostSold x = Stage.of(1, 2, "f0=1;k0=60");
    x.thing(0, 0, 0);
    Stage.sold(x, 0, 0, 5, 1);
    Due.is("one of 0.6", x.sum(0, 5, 5, 1), 0);
    Stage.sold(x, 0, 1, 5, 1);
    Due.is("two things of 0.6", x.sum(0, 5, 5, 1), 0);
    Stage.sold(x, 1, 0, 5, 1);
    Due.is("two shops of 0.6", x.sum(0, 5, 5, 1), 0);
    Stage.sold(x, 0, 0, 5, 1);
    Due.is("1.2 of one thing at one shop", x.sum(0, 5, 5, 1), 1);
  }

  private static void greatestAmounts() {
    Due.says("so many (1 to 100000), f, k (0 to 500), a SIZE (1 to 100), 150 SALES, 16 SHOPS: sums are longs");
    MostSold x = Stage.of(1, 0, "f0=500;k0=500");
    x.shop(0, 1, 0, 51);
    for (int s = 1; s < 16; s++) x.shop(0, 100, 0, 51);
    for (int i = 0; i < 150; i++) Stage.sold(x, 0, 0, 5, 100000);
    Due.is("amount", x.amount(0, 0, 5, 5), 15000000);
    Due.is("told", x.sum(0, 5, 5, 1), 37500000000L);
    Due.is("foretold", x.sum(0, 5, 5, 2), 37500000000L * 1500);
    Due.is("sum", x.sum(0, 5, 5, 0), 37500000000L * 1501);
    Due.is("sure", x.sure(0, 5), 10000 / 1501);
    Due.is("worth", x.worth(1, 5), 37500000000L * 100);
    Due.is("ask", x.ask(5, 150), 0xfffe);
    Due.is("greatest", x.span(0, 5, 1), 37500000000L * 1501);
    Due.is("least", x.span(0, 5, 0), 0);
    x.sheet(0, 3, 2);
    x.write(0, 5);
    Due.is("written", x.get(0, 3, 1), 37500000000L * 1501);
    MostSold y = Stage.of(1, 0, "f0=500;k0=500");
    y.shop(0, 1, 0, 51);
    for (int s = 1; s < 16; s++) y.shop(0, 100, 0, 51);
    for (int i = 0; i < 150; i++) Stage.sale(y, 0, 0, 5, 100000, Stage.BACK);
    Due.is("least sum", y.sum(0, 5, 5, 0), -37500000000L * 1501);
  }

  private static void toldOfShopsThatTell() {
    Due.says("TOLD: all SHOPS of that KIND that TELL in w");
    MostSold x = Stage.of(1, 0);
    x.shop(0, 1, 5, 6);
    x.shop(0, 1, 0, 51);
    for (int w = 4; w <= 7; w++) Stage.sold(x, 0, 0, w, 3);
    long[] due = {0, 300, 300, 0};
    for (int w = 4; w <= 7; w++) Due.is("told in " + w, x.sum(0, w, w, 1), due[w - 4]);
    for (int w = 4; w <= 7; w++) Due.is("its amount in " + w, x.amount(0, 0, w, w), 3);
    Stage.sold(x, 1, 0, 5, 20);
    Due.is("two shops", x.sum(0, 5, 5, 1), 2300);
    MostSold y = Stage.of(1, 1, "r=1");
    Stage.sale(y, 0, 0, 6, 3, Stage.BACK);
    Due.is("brought back in 6 from 5, silent in 5: amount", y.amount(0, 0, 5, 5), -3);
    Due.is("brought back in 6 from 5, silent in 5: told", y.sum(0, 5, 5, 1), 0);
    y.empty(0, 5, 5);
    Due.is("empty in 5, so it tells", y.sum(0, 5, 5, 1), -300);
  }

  private static void toldOfItsThings() {
    Due.says("TOLD of a TITLE: these of its THINGS");
    MostSold x = Stage.of(2, 1);
    x.thing(0, 0, 0);
    x.thing(1, 0, 0);
    for (int t = 0; t < 4; t++) Stage.sold(x, 0, t, 5, 1 << t);
    Due.is("things 0 and 2", x.sum(0, 5, 5, 1), 500);
    Due.is("things 1 and 3", x.sum(1, 5, 5, 1), 1000);
    MostSold y = Stage.of(0, 1);
    y.title(0);
    Due.is("a title without things", y.sum(0, 5, 5, 1), 0);
    MostSold z = new MostSold();
    for (int t = 0; t < 12; t++) z.title(0);
    for (int t = 0; t < 24; t++) z.thing(t / 2, 0, 0);
    z.shop(0, 1, 0, 51);
    for (int t = 0; t < 24; t++) Stage.sold(z, 0, t, 5, 1 + t);
    for (int t = 0; t < 12; t++) Due.is("title " + t + " of twelve", z.sum(t, 5, 5, 0), 100 * (4 * t + 3));
  }

  private static void toldAtItsKind() {
    Due.says("TOLD of a TITLE at a KIND; TOLD of a TITLE: at all KINDS");
    MostSold x = Stage.of(1, 0, "k0=1;k1=10;k2=100;k3=500");
    for (int k = 0; k < 4; k++) x.shop(k, 1, 0, 51);
    int[] due = {1, 11, 111, 611};
    for (int k = 0; k < 4; k++) {
      Stage.sold(x, k, 0, 5, 1);
      Due.is("told at kinds to " + k, x.sum(0, 5, 5, 1), due[k]);
    }
  }

  private static void foretoldBySizes() {
    Due.says("FORETOLD: TOLD there times the SIZES of SILENT by the SIZES of those that TELL");
    MostSold x = Stage.of(1, 0);
    x.shop(0, 2, 0, 51);
    x.shop(0, 3, 0, 51);
    x.shop(0, 7, 0, 51);
    x.shop(0, 100, 6, 51);
    x.shop(0, 100, 0, 4);
    x.shop(1, 100, 0, 51);
    Stage.sold(x, 0, 0, 5, 10);
    Due.is("one tells, two are silent", x.sum(0, 5, 5, 2), 1000 * 10 / 2);
    x.empty(1, 5, 5);
    Due.is("two tell, one is silent", x.sum(0, 5, 5, 2), 1000 * 7 / 5);
    x.empty(2, 5, 5);
    Due.is("none is silent", x.sum(0, 5, 5, 2), 0);
    Due.is("not open ones are not silent", x.sum(0, 5, 5, 0), 1000);
  }

  /** FORETOLD, where one SHOP has SOLD one (or it was brought BACK) and another is SILENT. */
  private static void foretold(int k, int sort, int sizeTells, int sizeSilent, long due) {
    MostSold x = Stage.of(1, 0, "k0=" + k);
    x.shop(0, sizeTells, 0, 51);
    x.shop(0, sizeSilent, 0, 51);
    Stage.sale(x, 0, 0, 5, 1, sort);
    Due.is("sort " + sort + ", " + k + " times " + sizeSilent + " by " + sizeTells, x.sum(0, 5, 5, 2), due);
  }

  private static void foretoldCutToward0() {
    Due.says("by the SIZES of those that TELL, cut toward 0");
    foretold(100, Stage.SOLD, 1, 1, 100);
    foretold(100, Stage.BACK, 1, 1, -100);
    foretold(100, Stage.SOLD, 3, 2, 66);
    foretold(100, Stage.BACK, 3, 2, -66);
    foretold(100, Stage.SOLD, 100, 1, 1);
    foretold(100, Stage.BACK, 100, 1, -1);
    foretold(99, Stage.SOLD, 100, 1, 0);
    foretold(99, Stage.BACK, 100, 1, 0);
    foretold(100, Stage.SOLD, 1, 100, 10000);
  }

  private static void foretoldIfNoneTells() {
    Due.says("(0, if none TELLS)");
    MostSold x = Stage.of(1, 2);
    Due.is("none tells", x.sum(0, 5, 5, 2), 0);
    Due.is("sum", x.sum(0, 5, 5, 0), 0);
    MostSold y = Stage.of(1, 0);
    Due.is("no shops", y.sum(0, 5, 5, 2), 0);
    MostSold z = Stage.of(1, 0);
    z.shop(0, 1, 5, 5);
    Stage.sold(z, 0, 0, 4, 9);
    Due.is("none is open", z.sum(0, 4, 4, 2), 0);
    MostSold v = Stage.of(1, 0, "r=1");
    v.shop(0, 1, 0, 51);
    v.shop(1, 1, 0, 51);
    Stage.sale(v, 0, 0, 6, 9, Stage.BACK);
    Stage.sold(v, 1, 0, 5, 2);
    Due.is("none tells at kind 0, though something came back", v.sum(0, 5, 5, 0), 200);
  }

  private static void foretoldOfEachKind() {
    Due.says("FORETOLD of a TITLE at a KIND: each cut alone");
    MostSold x = Stage.of(1, 0);
    for (int k = 0; k < 4; k++) {
      x.shop(k, 3, 0, 51);
      x.shop(k, 2, 0, 51);
    }
    for (int k = 0; k < 4; k++) {
      Stage.sold(x, 2 * k, 0, 5, 1);
      Due.is("66 at each of kinds to " + k, x.sum(0, 5, 5, 2), 66 * (k + 1));
    }
    MostSold y = Stage.of(1, 0);
    y.shop(0, 3, 0, 51);
    y.shop(0, 2, 0, 51);
    y.thing(0, 0, 0);
    Stage.sold(y, 0, 0, 5, 1);
    Stage.sold(y, 0, 1, 5, 1);
    Due.is("two things at a kind are cut together", y.sum(0, 5, 5, 2), 133);
  }

  private static void sumIsBoth() {
    Due.says("SUM: TOLD and FORETOLD of all KINDS");
    MostSold x = Stage.of(1, 0);
    x.shop(0, 1, 0, 51);
    x.shop(0, 2, 0, 51);
    x.shop(3, 1, 0, 51);
    x.shop(3, 5, 0, 51);
    Stage.sold(x, 0, 0, 5, 3);
    Stage.sale(x, 2, 0, 5, 1, Stage.BACK);
    Due.is("told", x.sum(0, 5, 5, 1), 300 - 100);
    Due.is("foretold", x.sum(0, 5, 5, 2), 600 - 500);
    Due.is("sum", x.sum(0, 5, 5, 0), 200 + 100);
  }

  private static void listCameOutInWOrBefore() {
    Due.says("TITLES that came OUT in w or before");
    MostSold x = new MostSold();
    int[] out = {4, 5, 6, 0, 51};
    for (int t = 0; t < 5; t++) {
      x.title(out[t]);
      x.thing(t, 0, 0);
    }
    x.shop(0, 1, 0, 51);
    for (int t = 0; t < 5; t++) Stage.sold(x, 0, t, 5, 10 + t);
    int[] due = {3, 2, -1, 1, -1};
    for (int t = 0; t < 5; t++) Due.is("place of one that came out in " + out[t], x.place(t, 5, 5), due[t]);
    for (int t = 0; t < 5; t++) Due.is("its sum is none the less", x.sum(t, 5, 5, 0), 1000 + 100 * t);
    Due.is("by rules of a later week", x.place(2, 5, 51), -1);
    Stage.sold(x, 0, 4, 51, 1);
    Due.is("out in 51, in 51", x.place(4, 51, 51), 1);
    Stage.sold(x, 0, 3, 0, 1);
    Due.is("out in 0, in 0", x.place(3, 0, 0), 1);
  }

  private static void listSumAbove0() {
    Due.says("with a SUM above 0");
    MostSold x = Stage.of(3, 1, "k0=1;f0=100");
    for (int t = 0; t < 3; t++) Stage.sold(x, 0, t, 5, 1);
    for (int t = 0; t < 3; t++) if (t < 2) Stage.sale(x, 0, t, 5, 1 + t, Stage.BACK);
    long[] sums = {0, -1, 1};
    int[] due = {-1, -1, 1};
    for (int t = 0; t < 3; t++) Due.is("sum of " + t, x.sum(t, 5, 5, 0), sums[t]);
    for (int t = 0; t < 3; t++) Due.is("place of " + t, x.place(t, 5, 5), due[t]);
    Due.is("line 0", x.line(5, 5, 0), 2);
    Due.is("line 1", x.line(5, 5, 1), -1);
  }

  private static void listGreatestFirst() {
    Due.says("the greatest first");
    MostSold x = Stage.of(4, 1, "k0=1");
    int[] many = {101, 103, 102, 100};
    for (int t = 0; t < 4; t++) Stage.sold(x, 0, t, 5, many[t]);
    int[] due = {1, 2, 0, 3, -1};
    for (int i = 0; i < 5; i++) Due.is("line " + i, x.line(5, 5, i), due[i]);
    int[] places = {3, 1, 2, 4};
    for (int t = 0; t < 4; t++) Due.is("place " + t, x.place(t, 5, 5), places[t]);
  }

  private static void listEmptyAndFull() {
    Due.says("THE LIST, empty and full; NONE");
    Due.is("no titles", new MostSold().line(5, 5, 0), -1);
    MostSold y = Stage.of(1, 1);
    Due.is("empty", y.line(5, 5, 0), -1);
    Due.is("no place", y.place(0, 5, 5), -1);
    MostSold x = Stage.of(12, 1);
    for (int t = 0; t < 12; t++) Stage.sold(x, 0, t, 5, 1 + t);
    for (int i = 0; i < 12; i++) Due.is("line " + i, x.line(5, 5, i), 11 - i);
    for (int t = 0; t < 12; t++) Due.is("place " + t, x.place(t, 5, 5), 12 - t);
    Due.is("line 12", x.line(5, 5, 12), -1);
    Due.is("line 13", x.line(5, 5, 13), -1);
    Due.is("the last line that there is", x.line(5, 5, Integer.MAX_VALUE), -1);
    Due.is("line -1", x.line(5, 5, -1), -2);
    Due.is("the least line", x.line(5, 5, Integer.MIN_VALUE), -2);
  }

  /** TITLES 0 and 3 have 9; 1, 2 and 4 have 7; 5 has 1. */
  private static MostSold tied(int... out) {
    MostSold x = new MostSold();
    int[] many = {9, 7, 7, 9, 7, 1};
    for (int t = 0; t < 6; t++) {
      x.title(out[t]);
      x.thing(t, 0, 0);
    }
    x.shop(0, 1, 0, 51);
    for (int t = 5; t >= 0; t--) Stage.sold(x, 0, t, 5, many[t]);
    return x;
  }

  private static void list(MostSold x, int v, int[] lines, int[] places) {
    for (int i = 0; i < 6; i++) Due.is("line " + i + " by rules of " + v, x.line(5, v, i), lines[i]);
    for (int t = 0; t < 6; t++) Due.is("place of " + t + " by rules of " + v, x.place(t, 5, v), places[t]);
  }

  private static void tiesByNumber() {
    Due.says("of like ones: t is 0: the lesser number first");
    MostSold x = tied(0, 1, 2, 3, 4, 5);
    int[] lines = {0, 3, 1, 2, 4, 5};
    int[] places = {1, 3, 4, 2, 5, 6};
    list(x, 0, lines, places);
    Due.typeAll(x, "t=0");
    list(x, 0, lines, places);
  }

  private static void tiesByOut() {
    Due.says("1: the one that came OUT later first, then the lesser number");
    MostSold x = tied(0, 1, 2, 3, 4, 5);
    Due.typeAll(x, "t=1");
    list(x, 0, new int[] {3, 0, 4, 2, 1, 5}, new int[] {2, 5, 4, 1, 3, 6});
    MostSold y = tied(5, 4, 3, 2, 4, 0);
    Due.typeAll(y, "t=1");
    list(y, 0, new int[] {0, 3, 1, 4, 2, 5}, new int[] {1, 3, 5, 2, 4, 6});
    MostSold z = tied(2, 2, 2, 2, 2, 2);
    Due.typeAll(z, "t=1");
    list(z, 0, new int[] {0, 3, 1, 2, 4, 5}, new int[] {1, 3, 4, 2, 5, 6});
  }

  private static void tiesThatShare() {
    Due.says("2: the lesser number first, but they share the PLACE (the next one's counts them all)");
    MostSold x = tied(0, 1, 2, 3, 4, 5);
    Due.typeAll(x, "t=2");
    list(x, 0, new int[] {0, 3, 1, 2, 4, 5}, new int[] {1, 3, 3, 1, 3, 6});
    MostSold y = Stage.of(12, 1, "t=2");
    for (int t = 0; t < 12; t++) Stage.sold(y, 0, t, 5, 4);
    for (int t = 0; t < 12; t++) Due.is("all share the place 1", y.place(t, 5, 5), 1);
    for (int i = 0; i < 12; i++) Due.is("line " + i, y.line(5, 5, i), i);
    Stage.sold(y, 0, 6, 5, 1);
    for (int t = 0; t < 12; t++) Due.is("all but one share the place 2", y.place(t, 5, 5), t == 6 ? 1 : 2);
  }

  private static void tiesByTheRulesAsked() {
    Due.says("By RULES of a WEEK v, for a WEEK w: t of v");
    MostSold x = tied(0, 1, 2, 3, 4, 5);
    Due.typeAll(x, "t=2@1;t=1@2;t=0@5");
    list(x, 0, new int[] {0, 3, 1, 2, 4, 5}, new int[] {1, 3, 4, 2, 5, 6});
    list(x, 1, new int[] {0, 3, 1, 2, 4, 5}, new int[] {1, 3, 3, 1, 3, 6});
    list(x, 2, new int[] {3, 0, 4, 2, 1, 5}, new int[] {2, 5, 4, 1, 3, 6});
    list(x, 5, new int[] {0, 3, 1, 2, 4, 5}, new int[] {1, 3, 4, 2, 5, 6});
  }

  private static void rulesOfAnotherWeek() {
    Due.says("By RULES of a WEEK v, for a WEEK w");
    MostSold x = Stage.of(1, 1, "f0=200@51;f0=300@0;f0=500@6");
    Stage.sold(x, 0, 0, 5, 1);
    Due.is("by rules of 0", x.sum(0, 5, 0, 0), 300);
    Due.is("by rules of 5", x.sum(0, 5, 5, 0), 300);
    Due.is("by rules of 6", x.sum(0, 5, 6, 0), 500);
    Due.is("by rules of 51", x.sum(0, 5, 51, 0), 500);
    Due.is("another week by rules of 6", x.sum(0, 6, 6, 0), 0);
    Due.is("amounts are not by f", x.amount(0, 0, 5, 6), 1);
  }

  private static void asItWasKnown() {
    Due.says("all of it as it was known in a week");
    MostSold x = Stage.of(2, 2);
    x.sale(0, 0, 5, 0, 3, 0, 10);
    x.sale(1, 1, 5, 0, 4, 0, 20);
    x.strike(0, 30);
    int[] asOf = {9, 10, 19, 20, 29, 30};
    int[] first = {-1, 0, 0, 1, 1, 1};
    long[] sums = {0, 600, 600, 300, 300, 0};
    for (int i = 0; i < 6; i++) {
      x.asOf(asOf[i]);
      Due.is("line 0 as of " + asOf[i], x.line(5, 5, 0), first[i]);
      Due.is("sum of 0 as of " + asOf[i], x.sum(0, 5, 5, 0), sums[i]);
    }
  }
}
