/** Promises 14 to 18: bytes of rules, wiping, faults, rules in force and why. */
public final class RulesTest {
  private static final int[] USUAL = {100, 1, 0, 51, 0, 167, 100, 100, 100, 100, 100, 100, 100, 100, 0};
  private static final String[] NAMES = {"h", "b", "r", "l", "o", "c", "f0", "f1", "f2", "f3", "k0", "k1", "k2", "k3", "t"};
  private static final int[] LEAST = {1, 0, 0, 0, 0, 0, 0, 0, 0, 0, 0, 0, 0, 0, 0};
  private static final int[] MOST = {9999, 1, 51, 51, 167, 167, 500, 500, 500, 500, 500, 500, 500, 500, 2};

  public static void main(String[] args) {
    bytes();
    faults();
    boundsOfItems();
    weeksOfParts();
    lastOneIsSo();
    withAFaultAllIsUsual();
    mostParts();
    badAsks();
    Due.close();
  }

  private static void bytes() {
    MostSold x = new MostSold();
    Due.is("type(-1)", x.type(-1), -2);
    Due.is("type(256)", x.type(256), -2);
    Due.is("wipe empty", x.wipe(), 0);
    for (int i = 0; i < 200; i++) Due.is("type", x.type(i == 0 ? 255 : i == 1 ? 0 : 'h'), i + 1);
    Due.is("201st", x.type('h'), -4);
    Due.is("201st, bad", x.type(256), -2);
    Due.is("count(6)", x.count(6), 200);
    Due.is("fault", x.fault(), 0);
    Due.is("wipe", x.wipe(), 200);
    Due.is("count(6) wiped", x.count(6), 0);
    Due.is("fault wiped", x.fault(), 0);
    Due.is("wipe again", x.wipe(), 0);
  }

  private static void fault(String text, int due) {
    MostSold x = new MostSold();
    Due.typeAll(x, text);
    Due.is("fault of " + text, x.fault(), due);
  }

  private static void faults() {
    fault("", 0);
    fault(";", 0);
    fault("x=1", 0);
    fault("H=1", 0);
    fault("=1", 0);
    fault("1", 0);
    fault("h", 1);
    fault("h1", 1);
    fault("h0=1", 1);
    fault("h ", 1);
    fault("f", 1);
    fault("f=1", 1);
    fault("f4=1", 1);
    fault("k/=1", 1);
    fault("k:=1", 1);
    fault("k3", 2);
    fault("k33=1", 2);
    fault("h=", 2);
    fault("h=;", 2);
    fault("h=x", 2);
    fault("h=-1", 2);
    fault("h==1", 2);
    fault("h=0", 2);
    fault("h=0x", 2);
    fault("h=0000", 2);
    fault("h=00001", 2);
    fault("h=0001", -1);
    fault("h=9999", -1);
    fault("h=12345", 6);
    fault("t=00002", 6);
    fault("t=00011", 6);
    fault("t=00031", 2);
    fault("b=2", 2);
    fault("b=1x", 3);
    fault("b=1 ", 3);
    fault("b=1@", 4);
    fault("b=1@x", 4);
    fault("b=1@;", 4);
    fault("b=1@5", -1);
    fault("b=1@05", -1);
    fault("b=1@51", -1);
    fault("b=1@52", 4);
    fault("b=1@99", 4);
    fault("b=1@520", 4);
    fault("b=1@510", 6);
    fault("b=1@005", 6);
    fault("b=1@5@6", 5);
    fault("b=1@5;", 6);
    fault("b=1;;b=1", 4);
    fault("b=1;h=0", 6);
    fault("b=1;h", 5);
    fault("b=1,h=1", 3);
    fault("f0=501", 3);
    fault("f0=5000", 3);
    fault("k0=500", -1);
    fault("b=1;h=2@3;x", 10);
  }

  private static void boundsOfItems() {
    for (int item = 0; item < 15; item++) {
      MostSold x = new MostSold();
      int place = NAMES[item].length() + 1;
      Due.rules(x, NAMES[item] + "=" + LEAST[item]);
      Due.is("least of " + NAMES[item], x.fault(), -1);
      Due.is("least of " + NAMES[item], x.rule(item, 0), LEAST[item]);
      Due.rules(x, NAMES[item] + "=" + MOST[item]);
      Due.is("most of " + NAMES[item], x.fault(), -1);
      for (int other = 0; other < 15; other++) {
        Due.is("item " + other + " by " + NAMES[item], x.rule(other, 51), other == item ? MOST[item] : USUAL[other]);
        Due.is("why " + other + " by " + NAMES[item], x.why(other, 51), other == item ? 0 : -1);
      }
      if (item > 0) {
        Due.rules(x, NAMES[item] + "=" + (MOST[item] + 1));
        Due.is("above the most of " + NAMES[item], x.fault(), place);
      }
    }
  }

  private static void weeksOfParts() {
    MostSold x = new MostSold();
    Due.rules(x, "h=7@3;h=8@5;f2=250@51");
    int[] due = {100, 100, 100, 7, 7, 8, 8};
    int[] why = {-1, -1, -1, 0, 0, 1, 1};
    for (int w = 0; w < 7; w++) {
      Due.is("h in " + w, x.rule(0, w), due[w]);
      Due.is("why h in " + w, x.why(0, w), why[w]);
    }
    Due.is("f2 in 50", x.rule(8, 50), 100);
    Due.is("f2 in 51", x.rule(8, 51), 250);
    Due.is("why f2 in 51", x.why(8, 51), 2);
  }

  private static void lastOneIsSo() {
    MostSold x = new MostSold();
    Due.rules(x, "t=2@2;t=1@1;k1=5;k2=6");
    Due.is("t in 0", x.rule(14, 0), 0);
    Due.is("t in 1", x.rule(14, 1), 1);
    Due.is("t in 2: the last part, not the latest week", x.rule(14, 2), 1);
    Due.is("why t in 2", x.why(14, 2), 1);
    Due.is("k1", x.rule(11, 0), 5);
    Due.is("k2", x.rule(12, 0), 6);
    Due.rules(x, "h=3;h=4;h=100");
    Due.is("h as it is otherwise", x.rule(0, 0), 100);
    Due.is("but by a part", x.why(0, 0), 2);
  }

  private static void withAFaultAllIsUsual() {
    MostSold x = new MostSold();
    Due.rules(x, "h=3;b=0");
    Due.is("b", x.rule(1, 9), 0);
    x.type(';');
    for (int item = 0; item < 15; item++) {
      Due.is("usual " + item, x.rule(item, 9), USUAL[item]);
      Due.is("why usual " + item, x.why(item, 9), -1);
    }
    Due.typeAll(x, "t=1");
    Due.is("b again", x.rule(1, 9), 0);
    Due.is("t", x.rule(14, 9), 1);
  }

  private static void mostParts() {
    MostSold x = new MostSold();
    StringBuilder text = new StringBuilder();
    for (int i = 0; i < 50; i++) text.append(i == 0 ? "h=" : ";h=").append(1 + i % 9);
    Due.rules(x, text.toString());
    Due.is("199 bytes", x.count(6), 199);
    Due.is("fifty parts", x.fault(), -1);
    Due.is("why by the fiftieth", x.why(0, 0), 49);
    Due.is("h by the fiftieth", x.rule(0, 0), 5);
    x.type(';');
    Due.is("200 bytes", x.fault(), 200);
    x.wipe();
    Due.typeAll(x, text.toString());
    x.type('7');
    Due.is("a longer last number", x.rule(0, 0), 57);
  }

  private static void badAsks() {
    MostSold x = new MostSold();
    int[][] bad = {{-1, 0}, {15, 0}, {0, -1}, {0, 52}};
    for (int[] b : bad) {
      Due.is("bad rule", x.rule(b[0], b[1]), -2);
      Due.is("bad why", x.why(b[0], b[1]), -2);
    }
  }
}
