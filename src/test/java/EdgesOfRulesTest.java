/** The document's second part of terms, RULES, sentence by sentence: what goes on, what is a FAULT and where, what is so. */
public final class EdgesOfRulesTest {
  private static final String[] NAMES = {"h", "b", "r", "l", "o", "c", "f0", "f1", "f2", "f3", "k0", "k1", "k2", "k3", "t"};
  private static final int[] LEAST = {1, 0, 0, 0, 0, 0, 0, 0, 0, 0, 0, 0, 0, 0, 0};
  private static final int[] MOST = {9999, 1, 51, 51, 167, 167, 500, 500, 500, 500, 500, 500, 500, 500, 2};
  private static final int[] USUAL = {100, 1, 0, 51, 0, 167, 100, 100, 100, 100, 100, 100, 100, 100, 0};

  public static void main(String[] args) {
    upTo200Bytes();
    wipedAtTwoHundred();
    bytesFrom0To255();
    partsWithSemicolonBetween();
    aLetter();
    aFigureBehindFAndK();
    thenEquals();
    oneToFourFigures();
    figuresAre0To9();
    perhapsAtAndAWeek();
    weekOfOneOrTwoFigures();
    weekTo51();
    behindAPart();
    fromWhichOn();
    otherwiseFrom0();
    numbersOfItems();
    otherwise();
    theLastOneIsSo();
    ofOneLetterAndFigure();
    faultOfAnEmptyText();
    faultWhereItCannotGoOn();
    faultOfANumber();
    theFirstFault();
    withAFaultAsWithoutAnyPart();
    aFaultMended();
    items();
    why();
    whyOfFiftyParts();
    Due.close();
  }

  private static MostSold typed(String text) {
    MostSold x = new MostSold();
    Due.typeAll(x, text);
    return x;
  }

  private static void fault(String text, int due) {
    Due.is("fault of " + text, typed(text).fault(), due);
  }

  private static final int GOES = -1;

  private static void upTo200Bytes() {
    Due.says("a text of up to 200 bytes");
    MostSold x = new MostSold();
    for (int i = 1; i <= 200; i++) Due.is("byte " + i, x.type('h'), i);
    Due.is("byte 201", x.type('h'), -4);
    Due.is("byte 202", x.type(0), -4);
    Due.is("count(6)", x.count(6), 200);
    MostSold y = typed("h=1;".repeat(49) + "h=02");
    Due.is("200 bytes without a fault", y.count(6), 200);
    Due.is("their fault", y.fault(), GOES);
    Due.is("by the last part", y.rule(0, 0), 2);
    Due.is("one more is refused", y.type('9'), -4);
    Due.is("and changes nothing", y.rule(0, 0), 2);
    MostSold z = typed("h=1;".repeat(50));
    Due.is("a ; as byte 200: fault behind the last", z.fault(), 200);
    MostSold w = typed("h=1;".repeat(49) + "h=2x");
    Due.is("the 200th byte is the fault", w.fault(), 199);
  }

  private static void wipedAtTwoHundred() {
    Due.says("RULES are empty: how many bytes they had");
    MostSold x = typed("h=1;".repeat(49) + "h=02");
    Due.is("wipe", x.wipe(), 200);
    Due.is("wipe the empty", x.wipe(), 0);
    Due.is("count(6)", x.count(6), 0);
    Due.is("fault", x.fault(), 0);
    Due.is("h", x.rule(0, 0), 100);
    Due.is("why h", x.why(0, 0), -1);
    Due.is("the first byte again", x.type('b'), 1);
    Due.typeAll(x, "=0");
    Due.is("nothing is left of what was wiped", x.rule(0, 51), 100);
    Due.is("the new part is the part 0", x.why(1, 0), 0);
    Due.is("wipe one", typed("h").wipe(), 1);
    Due.is("wipe none", new MostSold().wipe(), 0);
  }

  private static void bytesFrom0To255() {
    Due.says("A byte (0 to 255) comes behind RULES");
    Due.edges("type", 0, 255, 1, -2, b -> new MostSold().type(b));
    MostSold x = typed("h=1");
    Due.is("refused", x.type(256), -2);
    Due.is("refused below", x.type(-1), -2);
    Due.is("nothing came", x.count(6), 3);
    Due.is("no byte is taken by its lowest bits", x.type(256 + '2'), -2);
    Due.is("h", x.rule(0, 0), 1);
    fault("h=1" + (char) 255, 3);
    fault("h=1" + (char) 0, 3);
  }

  private static void partsWithSemicolonBetween() {
    Due.says("parts with ; between them");
    fault("h=1", GOES);
    fault("h=1;b=0", GOES);
    fault("h=1;b=0;t=2", GOES);
    fault(";h=1", 0);
    fault("h=1;", 4);
    fault("h=1;;b=0", 4);
    fault("h=1;b=0;", 8);
    fault("h=1:b=0", 3);
    fault("h=1b=0", 3);
    fault("h=1 ;b=0", 3);
    fault("h=1; b=0", 4);
    fault(";", 0);
  }

  private static void aLetter() {
    Due.says("a letter");
    for (int b = 0; b < 256; b++) {
      boolean isPlain = "hbrloct".indexOf(b) >= 0;
      boolean takesFigure = b == 'f' || b == 'k';
      int due = isPlain ? GOES : takesFigure ? 1 : 0;
      fault((char) b + "=1", due);
      fault("b=1;" + (char) b + "=1", due < 0 ? due : 4 + due);
    }
  }

  private static void aFigureBehindFAndK() {
    Due.says("behind f and k a figure (0 to 3)");
    for (int b = 0; b < 256; b++) {
      boolean isFigure = b >= '0' && b <= '3';
      fault("f" + (char) b + "=1", isFigure ? GOES : 1);
      fault("k" + (char) b + "=1", isFigure ? GOES : 1);
    }
    fault("f00=1", 2);
    fault("k12=1", 2);
    for (String letter : new String[] {"h", "b", "r", "l", "o", "c", "t"}) fault(letter + "0=1", 1);
  }

  private static void thenEquals() {
    Due.says("then =");
    for (int b = 0; b < 256; b++) {
      fault("h" + (char) b + "1", b == '=' ? GOES : 1);
      fault("f2" + (char) b + "1", b == '=' ? GOES : 2);
    }
    fault("h==1", 2);
  }

  private static void oneToFourFigures() {
    Due.says("and a number of one to four figures");
    fault("h=", 2);
    fault("h=;b=1", 2);
    fault("h=@5", 2);
    for (String name : NAMES) {
      int place = name.length() + 1;
      fault(name + "=", place);
      fault(name + "=;h=1", place);
      fault(name + "=@5", place);
      fault(name + "=-1", place);
    }
    fault("h=1", GOES);
    fault("h=12", GOES);
    fault("h=123", GOES);
    fault("h=1234", GOES);
    fault("h=12345", 6);
    fault("b=0001", GOES);
    fault("b=00001", 2 + 4);
    fault("b=0000", GOES);
    fault("f3=0500", GOES);
    fault("f3=00500", 7);
    Due.is("with noughts ahead", typed("f3=0050").rule(9, 0), 50);
    Due.is("four figures", typed("h=9876").rule(0, 0), 9876);
  }

  private static void figuresAre0To9() {
    Due.says("figures");
    for (int b = 0; b < 256; b++) {
      boolean isFigure = b >= '0' && b <= '9';
      boolean isNumber = isFigure && b != '0';
      fault("h=" + (char) b, isNumber ? GOES : 2);
      fault("h=1" + (char) b, isFigure ? GOES : b == '@' || b == ';' ? 4 : 3);
      if (isNumber) Due.is("h", typed("h=1" + (char) b).rule(0, 0), 10 + b - '0');
    }
  }

  private static void perhapsAtAndAWeek() {
    Due.says("then perhaps @ and a WEEK");
    fault("b=1", GOES);
    fault("b=1@7", GOES);
    fault("b=1@7;b=0", GOES);
    fault("b=1@", 4);
    fault("b=1@;b=0", 4);
    fault("b=1@@7", 4);
    fault("b=1@x", 4);
    fault("b=1@/", 4);
    fault("b=1@:", 4);
    fault("b=@7", 2);
    fault("f1=5@7", GOES);
    fault("f1=5@", 5);
  }

  private static void weekOfOneOrTwoFigures() {
    Due.says("a WEEK (one or two figures");
    fault("b=1@0", GOES);
    fault("b=1@9", GOES);
    fault("b=1@00", GOES);
    fault("b=1@07", GOES);
    fault("b=1@007", 6);
    fault("b=1@100", 6);
    fault("b=1@7x", 5);
    fault("b=1@17x", 6);
    Due.is("one figure: 6", typed("b=0@7").rule(1, 6), 1);
    Due.is("one figure: 7", typed("b=0@7").rule(1, 7), 0);
    Due.is("a nought ahead: 6", typed("b=0@07").rule(1, 6), 1);
    Due.is("a nought ahead: 7", typed("b=0@07").rule(1, 7), 0);
    Due.is("two figures: 16", typed("b=0@17").rule(1, 16), 1);
    Due.is("two figures: 17", typed("b=0@17").rule(1, 17), 0);
  }

  private static void weekTo51() {
    Due.says("to 51)");
    fault("b=1@50", GOES);
    fault("b=1@51", GOES);
    fault("b=1@52", 4);
    fault("b=1@60", 4);
    fault("b=1@99", 4);
    fault("h=1;b=1@52", 8);
    fault("b=1@52;h=1", 4);
    fault("b=1@5", GOES);
  }

  private static void behindAPart() {
    Due.says("with which it cannot go on");
    for (int b = 0; b < 256; b++) {
      if (b >= '0' && b <= '9') continue;
      fault("b=1" + (char) b, b == ';' || b == '@' ? 4 : 3);
      fault("b=1@51" + (char) b, b == ';' ? 7 : 6);
    }
  }

  private static void fromWhichOn() {
    Due.says("a WEEK from which on it is so");
    for (int from : new int[] {0, 1, 25, 50, 51}) {
      MostSold x = typed("r=7@" + from);
      if (from > 0) Due.is("one ahead of " + from, x.rule(2, from - 1), 0);
      if (from > 0) Due.is("why one ahead of " + from, x.why(2, from - 1), -1);
      Due.is("in " + from, x.rule(2, from), 7);
      Due.is("why in " + from, x.why(2, from), 0);
      Due.is("in 51 from " + from, x.rule(2, 51), 7);
    }
  }

  private static void otherwiseFrom0() {
    Due.says("(otherwise from 0)");
    MostSold x = typed("b=0@9;r=7;t=1@50");
    Due.is("r in 0", x.rule(2, 0), 7);
    Due.is("r in 51", x.rule(2, 51), 7);
    Due.is("b in 0", x.rule(1, 0), 1);
    Due.is("b in 9", x.rule(1, 9), 0);
    MostSold y = typed("r=7@51");
    Due.typeAll(y, ";b=0");
    Due.is("a part behind one with a week", y.rule(1, 0), 0);
  }

  private static void numbersOfItems() {
    Due.says("h (1 to 9999), b (0, 1), r, l (0 to 51), o, c (0 to 167), f, k (0 to 500), t (0 to 2)");
    for (int item = 0; item < 15; item++) {
      String name = NAMES[item];
      int place = name.length() + 1;
      fault(name + "=" + LEAST[item], GOES);
      fault(name + "=" + MOST[item], GOES);
      Due.is("the least of " + name, typed(name + "=" + LEAST[item]).rule(item, 0), LEAST[item]);
      Due.is("the most of " + name, typed(name + "=" + MOST[item]).rule(item, 0), MOST[item]);
      if (item == 0) fault("h=0", 2);
      else fault(name + "=" + (MOST[item] + 1), place);
      if (item == 0) fault("h=10000", 6);
      else fault(name + "=9999", place);
      fault("h=1;" + name + "=" + (MOST[item] + 1), item == 0 ? 10 : 4 + place);
    }
  }

  private static void otherwise() {
    Due.says("otherwise h 100, b 1, r 0, l 51, o 0, c 167, f, k 100, t 0");
    MostSold x = new MostSold();
    for (int item = 0; item < 15; item++) {
      Due.is("item " + item + " in 0", x.rule(item, 0), USUAL[item]);
      Due.is("item " + item + " in 51", x.rule(item, 51), USUAL[item]);
      int other = USUAL[item] == LEAST[item] ? MOST[item] : LEAST[item];
      MostSold y = typed(NAMES[item] + "=" + other);
      for (int i = 0; i < 15; i++) Due.is("item " + i + " by " + NAMES[item], y.rule(i, 5), i == item ? other : USUAL[i]);
    }
  }

  private static void theLastOneIsSo() {
    Due.says("Of parts of one letter (and figure) that are in force the last one is so");
    MostSold x = typed("h=5@10;h=6@5;h=7@20");
    int[] weeks = {0, 4, 5, 9, 10, 19, 20, 51};
    int[] due = {100, 100, 6, 6, 6, 6, 7, 7};
    int[] part = {-1, -1, 1, 1, 1, 1, 2, 2};
    for (int i = 0; i < weeks.length; i++) {
      Due.is("h in " + weeks[i], x.rule(0, weeks[i]), due[i]);
      Due.is("why h in " + weeks[i], x.why(0, weeks[i]), part[i]);
    }
    MostSold y = typed("h=5;h=6@51");
    Due.is("one not in force is not so", y.rule(0, 50), 5);
    Due.is("it is in 51", y.rule(0, 51), 6);
    MostSold z = typed("h=6@51;h=5");
    Due.is("the last in the text, not the latest week", z.rule(0, 51), 5);
    Due.is("of like weeks the last", typed("t=1@3;t=2@3").rule(14, 3), 2);
  }

  private static void ofOneLetterAndFigure() {
    Due.says("of one letter (and figure)");
    MostSold x = typed("f0=10;f1=11;f2=12;f3=13;k0=20;k1=21;k2=22;k3=23");
    for (int i = 0; i < 4; i++) {
      Due.is("f" + i, x.rule(6 + i, 0), 10 + i);
      Due.is("k" + i, x.rule(10 + i, 0), 20 + i);
      Due.is("why f" + i, x.why(6 + i, 0), i);
      Due.is("why k" + i, x.why(10 + i, 0), 4 + i);
    }
    Due.typeAll(x, ";f0=99");
    Due.is("f0 again", x.rule(6, 0), 99);
    Due.is("f1 as it was", x.rule(7, 0), 11);
    Due.is("k0 as it was", x.rule(10, 0), 20);
  }

  private static void faultOfAnEmptyText() {
    Due.says("The FAULT (of an empty text 0)");
    fault("", 0);
    MostSold x = new MostSold();
    for (int item = 0; item < 15; item++) Due.is("why " + item, x.why(item, 51), -1);
    Due.typeAll(x, "h=1");
    Due.is("no fault", x.fault(), GOES);
    x.wipe();
    Due.is("wiped", x.fault(), 0);
  }

  private static void faultWhereItCannotGoOn() {
    Due.says("FAULT: the place of the first byte with which it cannot go on");
    String text = "k3=450@12;h=7";
    int[] due = {0, 1, 2, 3, GOES, GOES, GOES, 7, GOES, GOES, 10, 11, 12, GOES};
    MostSold x = new MostSold();
    Due.is("of nothing", x.fault(), due[0]);
    for (int i = 0; i < text.length(); i++) {
      x.type(text.charAt(i));
      Due.is("of " + text.substring(0, i + 1), x.fault(), due[i + 1]);
    }
  }

  private static void faultOfANumber() {
    Due.says("FAULT: or of the first figure of a number that may not be");
    fault("t=3", 2);
    fault("t=31", 2);
    fault("t=3100", 2);
    fault("f0=0501", 3);
    fault("f0=501;h=1", 3);
    fault("f0=501@5", 3);
    fault("r=52", 2);
    fault("r=0052", 2);
    fault("h=0000", 2);
    fault("h=0@5", 2);
    fault("h=1@52", 4);
    fault("h=1@99", 4);
  }

  private static void theFirstFault() {
    Due.says("the first byte: of two faults the first");
    fault("t=3@52", 2);
    fault("t=3;x", 2);
    fault("x;t=3", 0);
    fault("t=2@52;x", 4);
    fault("t=3x", 2);
    fault("t=11111", 2);
    fault("h=12345", 6);
    fault("t=1;t=3;t=3", 6);
    fault("t=1;;t=3", 4);
    fault("t=1@5@99", 5);
    fault("t=1@520", 4);
  }

  private static void withAFaultAsWithoutAnyPart() {
    Due.says("With a FAULT all is as without any part");
    for (String fault : new String[] {";", ";x", ";h", ";h=", ";h=0", ";h=1@", ";h=1@52", "x", "@52", "00000"}) {
      MostSold x = Stage.of(2, 1, "h=3;b=0;r=1;l=0;o=1;c=1;f0=3;f1=3;f2=3;f3=3;k0=3;k1=3;k2=3;k3=3;t=2");
      Stage.sold(x, 0, 0, 5, 2);
      Stage.sold(x, 0, 1, 5, 2);
      Due.is("no fault, o is 1", x.amount(0, 0, 5, 5), 0);
      Due.typeAll(x, fault);
      for (int item = 0; item < 15; item++) {
        Due.is("item " + item + " with " + fault, x.rule(item, 5), USUAL[item]);
        Due.is("why " + item + " with " + fault, x.why(item, 5), -1);
      }
      Due.is("amount with " + fault, x.amount(0, 0, 5, 5), 2);
      Due.is("sum with " + fault, x.sum(0, 5, 5, 0), 200);
      Due.is("place with " + fault, x.place(1, 5, 5), 2);
    }
  }

  private static void aFaultMended() {
    Due.says("a FAULT at the end goes when the text goes on");
    MostSold x = typed("h=5;b");
    Due.is("h with a fault", x.rule(0, 0), 100);
    Due.typeAll(x, "=0");
    Due.is("h", x.rule(0, 0), 5);
    Due.is("b", x.rule(1, 0), 0);
    MostSold y = typed("h=0");
    Due.is("a number that may not be", y.fault(), 2);
    y.type('5');
    Due.is("goes on to one that may be", y.fault(), GOES);
    Due.is("h is 5", y.rule(0, 0), 5);
    MostSold z = typed("r=5");
    z.type('2');
    Due.is("goes on to one that may not be", z.fault(), 2);
    Due.is("r is as otherwise", z.rule(2, 0), 0);
    MostSold w = typed("h=5x");
    Due.typeAll(w, ";b=0");
    Due.is("a byte with which it cannot go on stays", w.fault(), 3);
    MostSold v = typed("b=0@5");
    v.type('1');
    Due.is("from 51 on", v.rule(1, 50), 1);
    Due.is("in 51", v.rule(1, 51), 0);
  }

  private static void items() {
    Due.says("ITEMS of RULES are 0 h, 1 b, 2 r, 3 l, 4 o, 5 c, 6 to 9 f, 10 to 13 k, 14 t");
    for (int item = -1; item <= 15; item++) {
      boolean is = item >= 0 && item < 15;
      Due.is("rule " + item, new MostSold().rule(item, 0), is ? USUAL[item] : -2);
      Due.is("why " + item, new MostSold().why(item, 0), is ? -1 : -2);
      if (is) Due.is("by " + NAMES[item], typed(NAMES[item] + "=1").why(item, 0), 0);
    }
    for (int far : new int[] {Integer.MIN_VALUE, Integer.MAX_VALUE}) {
      Due.is("rule " + far, new MostSold().rule(far, 0), -2);
      Due.is("why " + far, new MostSold().why(far, 0), -2);
    }
  }

  private static void why() {
    Due.says("WHY: the number of the part (from 0) by which an ITEM is so in a WEEK; NONE");
    MostSold x = typed("h=1;b=0@7;h=2@9");
    Due.is("h in 8", x.why(0, 8), 0);
    Due.is("h in 9", x.why(0, 9), 2);
    Due.is("b in 6", x.why(1, 6), -1);
    Due.is("b in 7", x.why(1, 7), 1);
    Due.is("r", x.why(2, 51), -1);
    Due.is("by a part that says what is so otherwise", typed("h=100").why(0, 0), 0);
  }

  private static void whyOfFiftyParts() {
    Due.says("WHY: the number of the part, with as many parts as 200 bytes hold");
    MostSold x = typed("h=1;".repeat(49) + "b=0");
    Due.is("fault", x.fault(), GOES);
    Due.is("part 48", x.why(0, 0), 48);
    Due.is("part 49", x.why(1, 0), 49);
    Due.is("b", x.rule(1, 0), 0);
    Due.is("h", x.rule(0, 0), 1);
  }
}
