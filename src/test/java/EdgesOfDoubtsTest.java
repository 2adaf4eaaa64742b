/** The document's fourth part of terms, sentence by sentence: LEFT OUT, SPAN, FIRM, ALIKE, ODD, CANNOT BE, MOVES, WORTH, TO ASK. */
public final class EdgesOfDoubtsTest {
  private static final long LEAST = Long.MIN_VALUE;

  public static void main(String[] args) {
    leftOutIsSilent();
    spanAsItIs();
    spanEachAlone();
    spanWhenNoneTells();
    spanByRulesOfW();
    firmIfFirstInEach();
    firmOfSixteenShops();
    firmWhenAListIsEmpty();
    firmOfTies();
    firmWhenNoneIsLeftOut();
    alikeHoursModulo24();
    alikeSoldThatCount();
    alikeShopsAndWeeks();
    chanceAtItsEnds();
    chanceRoundedDown();
    chanceAtLeastK();
    oddLeastChance();
    oddOfLikeOnes();
    oddAside();
    cannotBeNotOpen();
    cannotBeAheadOfOut();
    cannotBeSortsAndKnown();
    cannotBeMoreThanMade();
    cannotBeFewest();
    cannotBeLeastTogether();
    cannotBeLeastAsBits();
    cannotBeTwelveOthers();
    movesAnotherPlace();
    movesNoneOrOne();
    movesWeeksAsBits();
    movesByReturnsAndRules();
    movesNeverTold();
    movesAsOf();
    worthOfTitles();
    worthBelow0();
    worthIfNoneTells();
    askWithinCoins();
    askFewestCoins();
    askLeastAsBits();
    askForLeastWorth();
    askNothing();
    askCoinsOfShops();
    Due.close();
  }

  private static void leftOutIsSilent() {
    Due.says("LEFT OUT: a SHOP that TELLS is taken as SILENT");
    MostSold x = Stage.of(1, 0);
    x.shop(0, 2, 0, 51);
    x.shop(0, 3, 0, 51);
    x.shop(0, 5, 0, 51);
    Stage.sold(x, 0, 0, 5, 6);
    Stage.sold(x, 1, 0, 5, 1);
    Due.is("as it is: 700 and 700 times 5 by 5", x.sum(0, 5, 5, 0), 1400);
    Due.is("without 0: 100 and 100 times 7 by 3", x.span(0, 5, 0), 100 + 233);
    Due.is("without 1: 600 and 600 times 8 by 2", x.span(0, 5, 1), 600 + 2400);
    Due.is("as it was", x.sum(0, 5, 5, 0), 1400);
    Due.is("it still tells", x.tells(0, 5), 2);
  }

  private static void spanAsItIs() {
    Due.says("SPAN: the least and the greatest SUM, as it is");
    MostSold x = Stage.of(1, 0);
    x.shop(0, 1, 0, 51);
    x.shop(1, 1, 0, 51);
    Stage.sold(x, 0, 0, 5, 3);
    Stage.sold(x, 1, 0, 5, 4);
    Due.is("as it is the greatest", x.span(0, 5, 1), 700);
    Due.is("without one the least", x.span(0, 5, 0), 300);
    MostSold y = Stage.of(1, 0);
    y.shop(0, 1, 0, 51);
    y.shop(1, 1, 0, 51);
    Stage.sale(y, 0, 0, 5, 3, Stage.BACK);
    Stage.sale(y, 1, 0, 5, 4, Stage.BACK);
    Due.is("as it is the least", y.span(0, 5, 0), -700);
    Due.is("without one the greatest", y.span(0, 5, 1), -300);
    MostSold z = Stage.of(1, 2);
    Stage.sold(z, 0, 0, 5, 3);
    Stage.sold(z, 1, 0, 5, 3);
    Due.is("all alike, least", z.span(0, 5, 0), 600);
    Due.is("all alike, greatest", z.span(0, 5, 1), 600);
  }

  private static void spanEachAlone() {
    Due.says("and with each SHOP that TELLS LEFT OUT alone");
    for (int other = 0; other < 3; other++) {
      MostSold x = Stage.of(1, 3);
      for (int s = 0; s < 3; s++) Stage.sold(x, s, 0, 5, s == other ? 9 : 3);
      Due.is("less the great one, " + other, x.span(0, 5, 0), 600 + 300);
      Due.is("less a small one, " + other, x.span(0, 5, 1), 1200 + 600);
    }
    MostSold y = Stage.of(1, 16);
    for (int s = 0; s < 16; s++) Stage.sold(y, s, 0, 5, s == 15 ? 100 : 15);
    Due.is("less the sixteenth", y.span(0, 5, 0), 22500 + 1500);
    Due.is("less another", y.span(0, 5, 1), 31000 + 31000 / 15);
    MostSold z = Stage.of(1, 2);
    z.shop(0, 1, 0, 4);
    Stage.sold(z, 0, 0, 5, 3);
    Stage.sold(z, 2, 0, 5, 9);
    Due.is("one that is silent, one that is not open are not left out", z.span(0, 5, 1), 600);
    Due.is("the only one that tells left out: 0", z.span(0, 5, 0), 0);
    z.empty(1, 5, 5);
    Due.is("an empty one left out", z.span(0, 5, 1), 600);
  }

  private static void spanWhenNoneTells() {
    Due.says("SPAN when none TELLS");
    MostSold x = Stage.of(1, 2);
    Due.is("least", x.span(0, 5, 0), 0);
    Due.is("greatest", x.span(0, 5, 1), 0);
    Due.is("no shops, least", Stage.of(1, 0).span(0, 5, 0), 0);
    Due.is("no shops, greatest", Stage.of(1, 0).span(0, 5, 1), 0);
  }

  private static void spanByRulesOfW() {
    Due.says("(all by RULES of w itself)");
    MostSold x = Stage.of(1, 2, "k0=0;k0=200@5;k0=0@6");
    Stage.sold(x, 0, 0, 5, 1);
    Due.is("span", x.span(0, 5, 1), 400);
    Due.is("firm", x.firm(5), 0);
    Due.is("ask", x.ask(5, 10), 2);
    Due.is("moves", x.moves(0), 1L << 5);
    Due.is("sure", x.sure(0, 5), 5000);
    Due.is("worth", x.worth(1, 5), 200);
    x.sheet(0, 2, 2);
    x.write(0, 5);
    Due.is("write", x.get(0, 2, 1), 400);
  }

  private static void firmIfFirstInEach() {
    Due.says("FIRM is THE LIST, if its first TITLE is the first in each of these");
    for (int shop = 0; shop < 3; shop++) {
      MostSold x = Stage.of(2, 0);
      for (int k = 0; k < 3; k++) x.shop(k, 1, 0, 51);
      for (int k = 0; k < 3; k++) Stage.sold(x, k, 1, 5, k == shop ? 6 : 2);
      for (int k = 0; k < 3; k++) Stage.sold(x, k, 0, 5, 2);
      Due.is("firm by tie, without " + shop, x.firm(5), 0);
      Stage.sold(x, (shop + 1) % 3, 1, 5, 1);
      Due.is("one more without " + shop, x.firm(5), 1);
    }
  }

  private static void firmOfSixteenShops() {
    Due.says("and with each SHOP that TELLS LEFT OUT alone: sixteen of them");
    MostSold x = Stage.of(2, 16);
    for (int s = 0; s < 16; s++) Stage.sold(x, s, s == 15 ? 1 : 0, 5, s == 15 ? 14 : 1);
    Due.is("0 has 15, 1 has 14; without another shop than the last 14 and 14", x.firm(5), 1);
    Stage.sold(x, 15, 1, 5, 1);
    Due.is("15 and 15; without another shop than the last 14 and 15", x.firm(5), 0);
    MostSold y = Stage.of(2, 16);
    for (int s = 0; s < 16; s++) Stage.sold(y, s, s == 15 ? 1 : 0, 5, s == 15 ? 16 : 1);
    Due.is("15 and 16; only without the last one 0 is first", y.firm(5), 0);
  }

  private static void firmWhenAListIsEmpty() {
    Due.says("the first in each of these: an empty list has no first TITLE");
    MostSold x = Stage.of(1, 1);
    Due.is("no sum", x.firm(5), -3);
    Stage.sold(x, 0, 0, 5, 1);
    Due.is("the only shop left out", x.firm(5), 0);
    x.shop(1, 1, 0, 51);
    Stage.sold(x, 1, 0, 5, 1);
    Due.is("each of two left out", x.firm(5), 1);
    MostSold y = Stage.of(1, 0);
    y.title(6);
    y.thing(1, 0, 0);
    y.shop(0, 1, 0, 51);
    Stage.sold(y, 0, 1, 5, 9);
    Due.is("none that came out", y.firm(5), -3);
  }

  private static void firmOfTies() {
    Due.says("its first TITLE: by t of w");
    for (int t = 0; t < 3; t++) {
      MostSold x = new MostSold();
      Due.typeAll(x, "t=" + t + "@5;t=0@6");
      x.title(0);
      x.title(1);
      x.thing(0, 0, 0);
      x.thing(1, 0, 0);
      x.shop(0, 1, 0, 51);
      x.shop(1, 1, 0, 51);
      Stage.sold(x, 0, 0, 5, 3);
      Stage.sold(x, 0, 1, 5, 3);
      Stage.sold(x, 1, 1, 5, 1);
      Due.is("1 is first, without shop 1 they tie, t " + t, x.firm(5), t == 1 ? 1 : 0);
      Stage.sold(x, 1, 0, 5, 2);
      Due.is("0 is first, without shop 1 they tie, t " + t, x.firm(5), t == 1 ? 0 : 1);
    }
  }

  private static void firmWhenNoneIsLeftOut() {
    Due.says("each SHOP that TELLS: SILENT ones and ones not OPEN aside");
    MostSold x = Stage.of(2, 0);
    x.shop(0, 1, 0, 51);
    x.shop(0, 9, 0, 51);
    x.shop(1, 1, 0, 51);
    x.shop(0, 1, 0, 4);
    Stage.sold(x, 0, 0, 5, 1);
    Stage.sold(x, 2, 0, 5, 1);
    Stage.sold(x, 3, 1, 5, 1000);
    Due.is("firm", x.firm(5), 1);
  }

  /** SHOPS 0 and 1 SOLD in WEEK 5 at these HOURS. */
  private static MostSold atHours(int[] a, int[] b) {
    MostSold x = Stage.of(1, 2);
    for (int h : a) x.sale(0, 0, 5, h, 1, 0, 5);
    for (int h : b) x.sale(1, 0, 5, h, 1, 0, 5);
    return x;
  }

  private static int[] run(int first, int n) {
    int[] hours = new int[n];
    for (int i = 0; i < n; i++) hours[i] = first + i;
    return hours;
  }

  private static void alike(MostSold x, int n, int m, int k, int chance) {
    int[] due = {n, m, k, chance};
    for (int what = 0; what < 4; what++) Due.is("alike " + n + " " + m + " " + k + ", " + what, x.alike(0, 1, 5, what), due[what]);
    Due.is("the other way, n", x.alike(1, 0, 5, 0), m);
    Due.is("the other way, chance", x.alike(1, 0, 5, 3), chance);
  }

  private static void alikeHoursModulo24() {
    Due.says("HOURS modulo 24 in which they SOLD something");
    alike(atHours(new int[] {0}, new int[] {24}), 1, 1, 1, 41666);
    alike(atHours(new int[] {0}, new int[] {144}), 1, 1, 1, 41666);
    alike(atHours(new int[] {23}, new int[] {167}), 1, 1, 1, 41666);
    alike(atHours(new int[] {23}, new int[] {24}), 1, 1, 0, 1000000);
    alike(atHours(new int[] {0, 24, 48, 144}, new int[] {1}), 1, 1, 0, 1000000);
    alike(atHours(run(0, 24), run(144, 24)), 24, 24, 24, 1000000);
    alike(atHours(run(0, 40), run(12, 12)), 24, 12, 12, 1000000);
  }

  private static void alikeSoldThatCount() {
    Due.says("in which they SOLD something (SALES that COUNT)");
    MostSold x = Stage.of(1, 2);
    Due.typeAll(x, "l=3@5;o=10@5;c=12@5;c=100@6");
    int[] hours = {9, 10, 11, 12, 13};
    for (int h : hours) x.sale(0, 0, 5, h, 1, 0, 5);
    x.sale(1, 0, 5, 10, 1, 0, 8);
    x.sale(1, 0, 5, 11, 1, 0, 9);
    x.sale(1, 0, 5, 12, 1, 1, 5);
    x.sale(1, 0, 5, 12, 1, 2, 5);
    x.sale(1, 0, 5, 12, 1, 3, 5);
    Due.is("hours 10 to 12", x.alike(0, 1, 5, 0), 3);
    Due.is("told 3 behind, but not 4; not heard, bundled, brought back", x.alike(0, 1, 5, 1), 1);
    Due.is("alike", x.alike(0, 1, 5, 2), 1);
    x.strike(1, 20);
    Due.is("struck", x.alike(0, 1, 5, 2), 0);
    x.asOf(19);
    Due.is("as of 19", x.alike(0, 1, 5, 2), 1);
    x.asOf(7);
    Due.is("as of 7", x.alike(0, 1, 5, 1), 0);
  }

  private static void alikeShopsAndWeeks() {
    Due.says("of two unlike SHOPS in w");
    MostSold x = Stage.of(1, 3);
    x.sale(0, 0, 4, 1, 1, 0, 4);
    x.sale(1, 0, 6, 1, 1, 0, 6);
    x.sale(2, 0, 5, 1, 1, 0, 5);
    Due.is("weeks beside it, n", x.alike(0, 1, 5, 0), 0);
    Due.is("weeks beside it, m", x.alike(0, 1, 5, 1), 0);
    Due.is("a third shop", x.alike(0, 2, 5, 1), 1);
    Due.is("another week", x.alike(0, 2, 4, 0), 1);
    Due.is("week 0, when none sold", x.alike(0, 1, 0, 0), 0);
    x.sale(2, 0, 0, 5, 1, 0, 0);
    x.sale(2, 0, 51, 5, 1, 0, 51);
    Due.is("week 0", x.alike(0, 2, 0, 1), 1);
    Due.is("week 51", x.alike(0, 2, 51, 1), 1);
    Due.edges("alike a", 0, 1, 0, -2, a -> Stage.of(1, 3).alike(a, 2, 5, 0));
    Due.edges("alike b", 1, 2, 0, -2, b -> Stage.of(1, 3).alike(0, b, 5, 0));
    for (int s = 0; s < 3; s++) Due.is("a shop with itself, " + s, x.alike(s, s, 5, 0), -2);
    int[] whats = {Integer.MIN_VALUE, -1, 0, 1, 2, 3, 4, Integer.MAX_VALUE};
    int[] due = {-2, -2, 0, 0, 0, 1000000, -2, -2};
    for (int i = 0; i < 8; i++) Due.is("what " + whats[i], Stage.of(1, 2).alike(0, 1, 5, whats[i]), due[i]);
  }

  private static void chanceAtItsEnds() {
    Due.says("CHANCE: of all ways to take m of 24 HOURS the share");
    alike(atHours(new int[0], new int[0]), 0, 0, 0, 1000000);
    alike(atHours(new int[0], new int[] {3}), 0, 1, 0, 1000000);
    alike(atHours(run(0, 24), new int[0]), 24, 0, 0, 1000000);
    alike(atHours(run(0, 24), new int[] {3}), 24, 1, 1, 1000000);
    alike(atHours(run(0, 23), run(0, 23)), 23, 23, 23, 41666);
    alike(atHours(run(0, 23), run(1, 23)), 23, 23, 22, 1000000);
    alike(atHours(run(0, 12), run(12, 12)), 12, 12, 0, 1000000);
    alike(atHours(run(0, 12), run(0, 12)), 12, 12, 12, 0);
  }

  private static void chanceRoundedDown() {
    Due.says("in millionths, rounded down");
    // 1 of 24: 41666.67; 1 of 276: 3623.19; 1 of 2024: 494.07; 1 of 10626: 94.1; 1 of 42504: 23.5; 1 of 134596: 7.4; 1 of 346104: 2.9; 1 of 735471: 1.4; 1 of 1307504: 0.8
    int[] due = {41666, 3623, 494, 94, 23, 7, 2, 1, 0};
    for (int n = 1; n <= 9; n++) alike(atHours(run(0, n), run(0, n)), n, n, n, due[n - 1]);
    // 23 of 24: 958333.3
    alike(atHours(run(0, 23), new int[] {5}), 23, 1, 1, 958333);
    // 253 of 276: 916666.7
    alike(atHours(run(0, 23), new int[] {5, 6}), 23, 2, 2, 916666);
  }

  private static void chanceAtLeastK() {
    Due.says("in which at least k of the n are taken");
    // of 276 ways to take 2: both of the two 1, one of them 44, none 231
    alike(atHours(run(0, 2), run(0, 2)), 2, 2, 2, 3623);
    alike(atHours(run(0, 2), run(1, 2)), 2, 2, 1, 163043);
    alike(atHours(run(0, 2), run(2, 2)), 2, 2, 0, 1000000);
    // of 2024 ways to take 3: two of the two 22, one of them 462, none 1540
    alike(atHours(run(0, 2), run(0, 3)), 2, 3, 2, 10869);
    alike(atHours(run(0, 2), run(1, 3)), 2, 3, 1, 239130);
    // of 24 ways to take 1: 5
    alike(atHours(run(0, 5), new int[] {4}), 5, 1, 1, 208333);
    // of 2704156 ways to take 12: 12 of the 12 1, 11 of them 144, 10 of them 4356
    alike(atHours(run(0, 12), run(1, 12)), 12, 12, 11, 53);
    alike(atHours(run(0, 12), run(2, 12)), 12, 12, 10, 1664);
  }

  private static void oddLeastChance() {
    Due.says("ODD in w are the two SHOPS with the least CHANCE");
    MostSold x = Stage.of(1, 4);
    x.sale(0, 0, 5, 1, 1, 0, 5);
    x.sale(1, 0, 5, 1, 1, 0, 5);
    Due.is("the only two", x.odd(5), 1);
    x.sale(2, 0, 5, 2, 1, 0, 5);
    x.sale(2, 0, 5, 3, 1, 0, 5);
    x.sale(3, 0, 5, 2, 1, 0, 5);
    Due.is("2 and 3 have twice the chance", x.odd(5), 1);
    x.sale(3, 0, 5, 27, 1, 0, 5);
    Due.is("2 and 3 have less", x.odd(5), 203);
    Due.is("another week", x.odd(4), -1);
  }

  private static void oddOfLikeOnes() {
    Due.says("of like ones the least first, then the least second");
    MostSold x = Stage.of(1, 16);
    x.sale(15, 0, 5, 1, 1, 0, 5);
    x.sale(14, 0, 5, 1, 1, 0, 5);
    Due.is("14 and 15", x.odd(5), 1415);
    x.sale(7, 0, 5, 2, 1, 0, 5);
    x.sale(13, 0, 5, 2, 1, 0, 5);
    Due.is("7 and 13: the lesser first one", x.odd(5), 713);
    x.sale(9, 0, 5, 2, 1, 0, 5);
    Due.is("7 and 9: the lesser second one", x.odd(5), 709);
    x.sale(0, 0, 5, 1, 1, 0, 5);
    Due.is("0 and 14, not 7 and 9", x.odd(5), 14);
    MostSold y = Stage.of(1, 4);
    for (int s = 0; s < 4; s++) for (int h = 0; h < 9 + s / 2; h++) y.sale(s, 0, 5, h + 12 * (s / 2), 1, 0, 5);
    Due.is("0 and 1", y.alike(0, 1, 5, 3), 0);
    Due.is("2 and 3: less, but alike in millionths", y.alike(2, 3, 5, 3), 0);
    Due.is("of like ones in millionths", y.odd(5), 1);
  }

  private static void oddAside() {
    Due.says("(those with n or m 0 aside)");
    MostSold x = Stage.of(1, 3);
    Due.is("none sold", x.odd(5), -1);
    x.sale(1, 0, 5, 1, 1, 0, 5);
    Due.is("one sold", x.odd(5), -1);
    x.sale(0, 0, 5, 1, 1, 1, 5);
    Due.is("another heard", x.odd(5), -1);
    x.sale(2, 0, 5, 2, 1, 0, 5);
    Due.is("two sold, nothing alike", x.odd(5), 102);
    Due.is("no shops", new MostSold().odd(5), -1);
    Due.is("one shop", Stage.of(1, 1).odd(5), -1);
  }

  private static void cannotBeNotOpen() {
    Due.says("CANNOT BE: those of a WEEK in which the SHOP was not OPEN");
    MostSold x = new MostSold();
    x.title(0);
    x.thing(0, 0, 1000);
    x.shop(0, 1, 20, 22);
    int[] due = {1, 0, 0, 0, 1};
    for (int w = 19; w <= 23; w++) Stage.sold(x, 0, 0, w, 1);
    for (int w = 19; w <= 23; w++) Due.is("of week " + w, x.doubted(w - 19), due[w - 19]);
    Due.is("two of them", x.cannot(0), 2);
    x.shop(0, 1, 0, 51);
    Stage.sold(x, 1, 0, 19, 1);
    Due.is("another shop was open", x.doubted(5), 0);
  }

  private static void cannotBeAheadOfOut() {
    Due.says("or ahead of that the TITLE came OUT");
    MostSold x = new MostSold();
    x.title(20);
    x.title(0);
    x.thing(0, 0, 1000);
    x.thing(1, 0, 1000);
    x.shop(0, 1, 0, 51);
    int[] due = {1, 0, 0};
    for (int w = 19; w <= 21; w++) Stage.sold(x, 0, 0, w, 1);
    for (int w = 19; w <= 21; w++) Due.is("of week " + w, x.doubted(w - 19), due[w - 19]);
    Stage.sold(x, 0, 1, 0, 1);
    Due.is("of another title", x.doubted(3), 0);
    Due.is("one of them", x.cannot(0), 1);
    Due.is("of the other thing", x.cannot(1), 0);
    MostSold y = new MostSold();
    y.title(51);
    y.thing(0, 0, 1000);
    y.shop(0, 1, 0, 51);
    Stage.sold(y, 0, 0, 51, 1);
    y.sale(0, 0, 50, 0, 1, 0, 51);
    Due.is("out in 51, sold in 51", y.doubted(0), 0);
    Due.is("out in 51, sold in 50, told in 51", y.doubted(1), 1);
  }

  private static void cannotBeSortsAndKnown() {
    Due.says("KNOWN SALES that are SOLD or in BUNDLES, of a THING");
    for (int sort = 0; sort < 4; sort++) {
      int due = sort == Stage.SOLD || sort == Stage.BUNDLE ? 1 : 0;
      MostSold x = new MostSold();
      x.title(5);
      x.thing(0, 0, 0);
      x.shop(0, 1, 0, 51);
      Stage.sale(x, 0, 0, 4, 1, sort);
      Stage.sale(x, 0, 0, 5, 1, sort);
      Due.is("out of time, sort " + sort, x.doubted(0), due);
      Due.is("more than made, sort " + sort, x.doubted(1), due);
      Due.is("cannot, sort " + sort, x.cannot(0), 2 * due);
    }
    MostSold y = Stage.of(1, 1);
    y.sale(0, 0, 5, 0, 10, 0, 20);
    y.strike(0, 30);
    int[] asOf = {19, 20, 29, 30};
    int[] due = {0, 1, 1, 0};
    for (int i = 0; i < 4; i++) {
      y.asOf(asOf[i]);
      Due.is("cannot as of " + asOf[i], y.cannot(0), due[i]);
      Due.is("doubted as of " + asOf[i], y.doubted(0), due[i]);
    }
  }

  private static MostSold made(int made, int... many) {
    MostSold x = new MostSold();
    x.title(0);
    x.thing(0, 0, made);
    x.shop(0, 1, 0, 51);
    for (int m : many) Stage.sold(x, 0, 0, 5, m);
    return x;
  }

  private static void doubted(MostSold x, int... sales) {
    Due.is("cannot", x.cannot(0), sales.length);
    for (int s = 0; s < x.count(3); s++) {
      int due = 0;
      for (int d : sales) if (d == s) due = 1;
      Due.is("doubted " + s, x.doubted(s), due);
    }
  }

  private static void cannotBeMoreThanMade() {
    Due.says("and of the others, if they are more together than were MADE");
    doubted(made(10, 4, 6));
    doubted(made(10, 4, 7), 0);
    doubted(made(10, 11), 0);
    doubted(made(10, 10));
    doubted(made(0, 1), 0);
    doubted(made(0));
    doubted(made(1000000, 100000, 100000, 100000, 100000, 100000, 100000, 100000, 100000, 100000, 100000));
    doubted(made(999999, 100000, 100000, 100000, 100000, 100000, 100000, 100000, 100000, 100000, 100000), 0);
    MostSold x = new MostSold();
    x.title(5);
    x.thing(0, 0, 10);
    x.shop(0, 1, 0, 51);
    Stage.sold(x, 0, 0, 4, 9);
    Stage.sold(x, 0, 0, 5, 10);
    doubted(x, 0);
    Stage.sold(x, 0, 0, 5, 1);
    doubted(x, 0, 2);
  }

  private static void cannotBeFewest() {
    Due.says("some: the fewest that leave no more");
    doubted(made(10, 5, 5, 5, 9), 0, 3);
    doubted(made(10, 1, 1, 1, 10), 3);
    doubted(made(10, 10, 10), 0);
    doubted(made(9, 10, 10), 0, 1);
    doubted(made(3, 2, 2, 2, 2, 2), 0, 1, 2, 3);
    doubted(made(4, 2, 2, 2, 2, 2), 0, 1, 2);
    doubted(made(0, 1, 2, 3), 0, 1, 2);
  }

  private static void cannotBeLeastTogether() {
    Due.says("of like ones those with the least together");
    doubted(made(10, 6, 5, 4), 1);
    doubted(made(10, 6, 4, 5), 2);
    doubted(made(11, 6, 5, 4), 2);
    doubted(made(9, 6, 5, 4), 0);
    doubted(made(10, 8, 6, 7, 5), 1, 2, 3);
  }

  private static void cannotBeLeastAsBits() {
    Due.says("then the least as bits (by SALES of that THING that are others, in order)");
    doubted(made(10, 5, 5, 5), 0);
    doubted(made(10, 4, 6, 6), 1);
    doubted(made(10, 8, 7, 8, 7), 0, 1, 3);
    doubted(made(8, 3, 4, 4, 3), 0, 3);
    doubted(made(7, 3, 4, 4, 3), 0, 1);
    MostSold x = new MostSold();
    x.title(5);
    x.thing(0, 0, 10);
    x.thing(0, 0, 10);
    x.shop(0, 1, 0, 51);
    Stage.sold(x, 0, 0, 4, 5);
    Stage.sold(x, 0, 1, 5, 5);
    Stage.sale(x, 0, 0, 5, 5, Stage.HEARD);
    Stage.sold(x, 0, 0, 5, 5);
    Stage.sold(x, 0, 0, 5, 5);
    Stage.sold(x, 0, 0, 5, 5);
    doubted(x, 0, 3);
  }

  private static void cannotBeTwelveOthers() {
    Due.says("FULL: more than 12 others");
    MostSold x = made(12);
    for (int i = 0; i < 12; i++) Stage.sold(x, 0, 0, 5, 1);
    Due.is("twelve, as many as made", x.cannot(0), 0);
    Due.is("none is doubted", x.doubted(11), 0);
    Stage.sold(x, 0, 0, 5, 1);
    Due.is("thirteen", x.cannot(0), -4);
    Due.is("doubted of thirteen", x.doubted(0), -4);
    Due.is("doubted of thirteen, the last", x.doubted(12), -4);
    x.strike(3, 5);
    Due.is("twelve known", x.cannot(0), 0);
    Due.is("one that is not known", x.doubted(3), 0);
    x.asOf(5);
    x.back(3);
    Due.is("put back", x.cannot(0), -4);
    x.asOf(4);
    Due.is("as of 4 none", x.cannot(0), 0);
    MostSold y = made(1000, 1, 1, 1, 1, 1, 1, 1, 1, 1, 1, 1, 1, 1);
    Due.is("thirteen, no more than made", y.cannot(0), -4);
    MostSold z = new MostSold();
    z.title(5);
    z.thing(0, 0, 6);
    z.shop(0, 1, 0, 51);
    for (int i = 0; i < 130; i++) Stage.sold(z, 0, 0, 4, 1);
    for (int i = 0; i < 12; i++) Stage.sold(z, 0, 0, 5, 1);
    Due.is("a hundred and thirty ahead of its coming out, twelve others", z.cannot(0), 136);
    Due.is("the sixth of the others", z.doubted(135), 1);
    Due.is("the seventh of the others", z.doubted(136), 0);
  }

  private static void movesAnotherPlace() {
    Due.says("MOVES: the WEEKS w in whose LIST some TITLE would have another PLACE");
    MostSold x = Stage.of(2, 1);
    Stage.sold(x, 0, 0, 5, 5);
    Stage.sold(x, 0, 1, 5, 4);
    Stage.sold(x, 0, 1, 5, 1);
    Stage.sold(x, 0, 1, 5, 1);
    Due.is("0 has 5, 1 has 6, less 1: a tie, the lesser first", x.moves(2), 1L << 5);
    Due.is("less 4", x.moves(1), 1L << 5);
    Stage.sold(x, 0, 1, 5, 1);
    Due.is("1 has 7, less 1", x.moves(2), 0);
    MostSold y = Stage.of(2, 1, "t=2");
    Stage.sold(y, 0, 0, 5, 5);
    Stage.sold(y, 0, 1, 5, 4);
    Stage.sold(y, 0, 1, 5, 1);
    Due.is("a shared place, without it none is shared", y.moves(2), 1L << 5);
    MostSold z = Stage.of(2, 1);
    Stage.sold(z, 0, 0, 5, 5);
    Stage.sold(z, 0, 1, 5, 4);
    Stage.sold(z, 0, 1, 5, 1);
    Due.is("a tie, the lesser is first anyway", z.moves(2), 0);
  }

  private static void movesNoneOrOne() {
    Due.says("(or none, or one)");
    MostSold x = Stage.of(1, 1);
    Stage.sold(x, 0, 0, 5, 5);
    Due.is("none without it", x.moves(0), 1L << 5);
    MostSold y = Stage.of(1, 1);
    Stage.sold(y, 0, 0, 5, 5);
    Stage.sale(y, 0, 0, 5, 5, Stage.BACK);
    Due.is("one without it", y.moves(1), 1L << 5);
    Due.is("below 0 without the other", y.moves(0), 0);
    MostSold z = new MostSold();
    z.title(6);
    z.thing(0, 0, 0);
    z.shop(0, 1, 0, 51);
    Stage.sold(z, 0, 0, 5, 5);
    Due.is("of one that was not out", z.moves(0), 0);
    MostSold v = Stage.of(1, 0);
    v.shop(0, 1, 6, 51);
    Stage.sold(v, 0, 0, 5, 5);
    Due.is("of a shop not open", v.moves(0), 0);
    MostSold w = Stage.of(1, 1);
    Stage.sale(w, 0, 0, 5, 99, Stage.HEARD);
    Due.is("too few heard", w.moves(0), 0);
    Stage.sale(w, 0, 0, 5, 1, Stage.HEARD);
    Due.is("just enough heard", w.moves(0), 1L << 5);
  }

  private static void movesWeeksAsBits() {
    Due.says("the WEEKS, as bits");
    for (int w = 0; w < 52; w++) {
      MostSold x = Stage.of(1, 1);
      Stage.sold(x, 0, 0, w, 5);
      Due.is("of week " + w, x.moves(0), 1L << w);
    }
    MostSold x = Stage.of(1, 1);
    StringBuilder rules = new StringBuilder("r=20@31;r=19@32");
    for (int back = 18; back >= 1; back--) rules.append(";r=").append(back).append("@").append(51 - back);
    Due.typeAll(x, rules.toString());
    Due.is("fault", x.fault(), -1);
    for (int w = 31; w <= 51; w++) Stage.sold(x, 0, 0, w, 3);
    Stage.sale(x, 0, 0, 51, 3, Stage.BACK);
    Due.is("weeks 31 to 50: each one's r is what is missing to 51", x.moves(21), (1L << 51) - (1L << 31));
  }

  private static void movesByReturnsAndRules() {
    Due.says("MOVES: by RULES of w itself");
    MostSold x = Stage.of(1, 1, "r=2@7;r=1@8");
    for (int w = 4; w <= 10; w++) Stage.sold(x, 0, 0, w, 3);
    Stage.sale(x, 0, 0, 9, 3, Stage.BACK);
    Due.is("taken off 7 and 8", x.moves(7), 1L << 7 | 1L << 8);
    MostSold y = Stage.of(1, 1, "f0=0@6");
    Stage.sold(y, 0, 0, 5, 3);
    Stage.sold(y, 0, 0, 6, 3);
    Due.is("by rules of 5", y.moves(0), 1L << 5);
    Due.is("by rules of 6", y.moves(1), 0);
    MostSold z = Stage.of(1, 1, "r=51");
    Stage.sale(z, 0, 0, 51, 3, Stage.BACK);
    Stage.sold(z, 0, 0, 0, 3);
    Due.is("from 51 to 0", z.moves(0), 1);
  }

  private static void movesNeverTold() {
    Due.says("if it had never been TOLD: a SHOP may be SILENT then");
    MostSold x = Stage.of(1, 0);
    x.title(0);
    x.thing(1, 0, 0);
    x.shop(0, 1, 0, 51);
    x.shop(0, 1, 0, 51);
    x.shop(1, 1, 0, 51);
    Stage.sold(x, 0, 0, 5, 3);
    Stage.sale(x, 1, 1, 5, 1, Stage.HEARD);
    Stage.sold(x, 2, 1, 5, 5);
    Due.is("without the hearing shop 1 is silent: 3 and 3", x.moves(1), 1L << 5);
    x.empty(1, 5, 5);
    Due.is("but it said it was empty", x.moves(1), 0);
    MostSold y = Stage.of(1, 0, "r=1;l=0");
    y.title(0);
    y.thing(1, 0, 0);
    y.shop(0, 1, 0, 51);
    y.shop(0, 1, 0, 51);
    y.shop(1, 1, 0, 51);
    Stage.sold(y, 0, 0, 5, 3);
    y.sale(1, 0, 5, 0, 1, Stage.BACK, 9);
    Stage.sold(y, 2, 1, 5, 5);
    Due.is("one that does not count and is taken off 4: its shop tells in 5 by it", y.moves(1), 1L << 5);
  }

  private static void movesAsOf() {
    Due.says("of a SALE that is KNOWN");
    MostSold x = Stage.of(1, 1);
    x.sale(0, 0, 5, 0, 3, 0, 20);
    x.strike(0, 30);
    int[] asOf = {19, 20, 29, 30};
    long[] due = {LEAST + 3, 1L << 5, 1L << 5, LEAST + 3};
    for (int i = 0; i < 4; i++) {
      x.asOf(asOf[i]);
      Due.is("as of " + asOf[i], x.moves(0), due[i]);
      Due.is("known as it was", x.count(4), due[i] > 0 ? 1 : 0);
    }
  }

  private static void worthOfTitles() {
    Due.says("WORTH: the sum, over TITLES, of TOLD at its KIND times its SIZE by the SIZES of those that TELL there, cut");
    MostSold x = Stage.of(3, 0);
    x.shop(0, 3, 0, 51);
    x.shop(0, 2, 0, 51);
    x.shop(0, 100, 0, 51);
    x.shop(1, 7, 0, 51);
    x.shop(1, 4, 0, 51);
    for (int t = 0; t < 3; t++) Stage.sold(x, 0, t, 5, 1);
    Stage.sold(x, 3, 2, 5, 1);
    Due.is("66 and 66 and 66", x.worth(1, 5), 198);
    Due.is("3333 and 3333 and 3333", x.worth(2, 5), 9999);
    Due.is("at another kind: 400 by 7", x.worth(4, 5), 57);
    x.empty(2, 5, 5);
    Due.is("by 103: 1 and 1 and 1", x.worth(1, 5), 3);
  }

  private static void worthBelow0() {
    Due.says("(0, if TOLD is below 0");
    MostSold x = Stage.of(3, 0);
    x.shop(0, 1, 0, 51);
    x.shop(0, 1, 0, 51);
    Stage.sold(x, 0, 0, 5, 3);
    Due.is("one", x.worth(1, 5), 300);
    Stage.sale(x, 0, 1, 5, 1, Stage.BACK);
    Due.is("less than 0 is not taken off", x.worth(1, 5), 300);
    Stage.sale(x, 0, 2, 5, 1, Stage.BACK);
    Stage.sold(x, 0, 2, 5, 1);
    Due.is("0 neither", x.worth(1, 5), 300);
    Stage.sold(x, 0, 2, 5, 1);
    Due.is("above 0", x.worth(1, 5), 400);
  }

  private static void worthIfNoneTells() {
    Due.says("or none TELLS)");
    MostSold x = Stage.of(1, 1);
    x.shop(1, 1, 0, 51);
    Due.is("none tells", x.worth(0, 5), 0);
    Stage.sold(x, 1, 0, 5, 3);
    Due.is("none tells at its kind", x.worth(0, 5), 0);
    Due.is("it tells", x.worth(1, 5), LEAST + 3);
    MostSold y = Stage.of(1, 0);
    y.shop(0, 1, 5, 6);
    y.shop(0, 1, 0, 51);
    for (int w = 4; w <= 7; w++) Stage.sold(y, 1, 0, w, 3);
    long[] due = {LEAST + 3, 300, 300, LEAST + 3};
    for (int w = 4; w <= 7; w++) Due.is("open from 5 to 6: " + w, y.worth(0, w), due[w - 4]);
  }

  /** The last SHOP tells; the others are SILENT, WORTH 100 by their SIZES. */
  private static MostSold worths(int... sizes) {
    MostSold x = Stage.of(1, 0);
    for (int size : sizes) x.shop(0, size, 0, 51);
    x.shop(0, 1, 0, 51);
    Stage.sold(x, sizes.length, 0, 5, 1);
    return x;
  }

  private static void askWithinCoins() {
    Due.says("TO ASK within so many COINS: the SHOPS with the most WORTH together");
    MostSold x = worths(3, 4, 6);
    Due.is("none within 9", x.ask(5, 9), 0);
    Due.is("one within 10", x.ask(5, 10), 4);
    Due.is("one within 19", x.ask(5, 19), 4);
    Due.is("two within 20", x.ask(5, 20), 6);
    Due.is("two within 29", x.ask(5, 29), 6);
    Due.is("three within 30", x.ask(5, 30), 7);
    x.coins(2, 11);
    Due.is("within 20: two that cost less", x.ask(5, 20), 3);
    Due.is("within 21", x.ask(5, 21), 6);
    Due.edges("ask of no shops within", 0, 16000, 0, -2, c -> new MostSold().ask(5, c));
    Due.is("within 16000", x.ask(5, 16000), 7);
    Due.is("within 16001", x.ask(5, 16001), -2);
    MostSold y = worths(1, 2, 3, 4, 5, 6, 7, 8, 9, 10, 11, 12, 13, 14, 15);
    for (int s = 0; s < 15; s++) y.coins(s, 1000);
    Due.is("all that are silent", y.ask(5, 15000), 0x7fff);
    Due.is("all but the least", y.ask(5, 14999), 0x7ffe);
  }

  private static void askFewestCoins() {
    Due.says("of like ones the fewest COINS");
    MostSold x = worths(5, 5);
    x.coins(0, 9);
    x.coins(1, 8);
    Due.is("the second costs less", x.ask(5, 10), 2);
    x.coins(1, 9);
    Due.is("as much", x.ask(5, 10), 1);
    MostSold y = worths(2, 3, 5);
    y.coins(2, 19);
    Due.is("2 and 3 for 20, 5 for 19", y.ask(5, 20), 4);
    y.coins(2, 20);
    Due.is("2 and 3 for 20, 5 for 20", y.ask(5, 20), 3);
    y.coins(0, 11);
    Due.is("2 and 3 for 21, 5 for 20", y.ask(5, 21), 4);
  }

  private static void askLeastAsBits() {
    Due.says("then the least as bits");
    MostSold x = worths(5, 5, 5, 5);
    Due.is("one", x.ask(5, 10), 1);
    Due.is("two", x.ask(5, 20), 3);
    Due.is("three", x.ask(5, 30), 7);
    MostSold y = worths(4, 1, 2, 3);
    Due.is("4 or 1 and 3", y.ask(5, 10), 1);
    y.coins(0, 20);
    Due.is("4 for 20, 1 and 3 for 20, 3 and 2 are 5", y.ask(5, 20), 12);
    MostSold z = worths(3, 3, 6);
    z.coins(2, 20);
    Due.is("3 and 3 or 6: bits 0 and 1", z.ask(5, 20), 3);
    MostSold v = worths(6, 3, 3);
    v.coins(0, 20);
    Due.is("6 or 3 and 3: bit 0", v.ask(5, 20), 1);
  }

  private static void askForLeastWorth() {
    Due.says("the SHOPS with the most WORTH together: a WORTH of 1 is more than none");
    MostSold x = Stage.of(1, 2, "k0=1");
    Stage.sold(x, 0, 0, 5, 1);
    Due.is("worth 1", x.worth(1, 5), 1);
    Due.is("asked", x.ask(5, 10), 2);
    Due.is("not within 9", x.ask(5, 9), 0);
    x.coins(1, 1000);
    Due.is("asked, dear as it is", x.ask(5, 1000), 2);
    x.shop(0, 2, 0, 51);
    Due.is("worth 2 for 10", x.ask(5, 1000), 4);
    Due.is("worth 3 for 1010", x.ask(5, 1010), 6);
  }

  private static void askNothing() {
    Due.says("SHOPS that are SILENT in w; none of no WORTH");
    MostSold x = Stage.of(1, 16);
    for (int s = 0; s < 16; s++) x.coins(s, 0);
    Due.is("sixteen silent ones, none tells", x.ask(5, 16000), 0);
    Stage.sold(x, 3, 0, 5, 1);
    Due.is("all but the one that tells, for nothing", x.ask(5, 0), 0xffff - 8);
    Stage.sale(x, 3, 0, 5, 1, Stage.BACK);
    Due.is("nothing told, nothing worth", x.ask(5, 0), 0);
    Due.is("no shops", new MostSold().ask(5, 16000), 0);
    MostSold y = Stage.of(1, 1);
    y.shop(0, 1, 0, 4);
    y.shop(0, 1, 6, 51);
    y.shop(0, 1, 5, 5);
    Stage.sold(y, 0, 0, 5, 1);
    Due.is("only the open one", y.ask(5, 16000), 8);
  }

  private static void askCoinsOfShops() {
    Due.says("each for COINS (told by SHOPS, 0 to 1000; 10 at first)");
    Due.edges("coins", 0, 1000, 10, -2, c -> Stage.of(1, 1).coins(0, c));
    Due.edges("coins of shop", 0, 2, 10, -2, s -> Stage.of(1, 3).coins(s, 5));
    MostSold x = worths(1);
    x.coins(0, 1000);
    Due.is("within 999", x.ask(5, 999), 0);
    Due.is("within 1000", x.ask(5, 1000), 1);
    Due.is("refused", x.coins(0, 1001), -2);
    Due.is("as it was", x.coins(0, 0), 1000);
    Due.is("for nothing", x.ask(5, 0), 1);
  }
}
