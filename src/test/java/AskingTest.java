/** Promises 31 and 32: what it is worth to ask a shop, and which to ask. */
public final class AskingTest {
  private static final long LEAST = Long.MIN_VALUE;

  public static void main(String[] args) {
    worth();
    worthBelowZero();
    ask();
    askTies();
    askMost();
    Due.close();
  }

  private static void worth() {
    MostSold x = new MostSold();
    x.title(50);
    x.title(0);
    x.thing(0, 0, 9);
    x.thing(1, 0, 9);
    x.shop(0, 3, 0, 51);
    x.shop(0, 4, 0, 51);
    x.shop(0, 5, 0, 51);
    x.shop(1, 5, 0, 51);
    x.shop(0, 5, 0, 4);
    x.sale(0, 0, 5, 0, 1, 0, 5);
    x.sale(0, 1, 5, 0, 2, 0, 5);
    Due.is("each title cut alone, though not out yet: 166 and 333", x.worth(2, 5), 499);
    Due.is("by its own size: 133 and 266", x.worth(1, 5), 399);
    Due.is("it tells", x.worth(0, 5), LEAST + 3);
    Due.is("it is not open", x.worth(4, 5), LEAST + 3);
    Due.is("none tells at its kind", x.worth(3, 5), 0);
    x.empty(1, 5, 5);
    Due.is("by the sizes of all that tell: 71 and 142", x.worth(2, 5), 213);
    Due.rules(x, "k0=200@5");
    Due.is("by the week's own rules: 142 and 285", x.worth(2, 5), 427);
    Due.is("bad shop", x.worth(5, 5), LEAST + 2);
    Due.is("bad shop", x.worth(-1, 5), LEAST + 2);
    Due.is("bad week", x.worth(2, 52), LEAST + 2);
    Due.is("bad week", x.worth(2, -1), LEAST + 2);
  }

  private static void worthBelowZero() {
    MostSold x = new MostSold();
    x.title(0);
    x.title(0);
    x.thing(0, 0, 9);
    x.thing(1, 0, 9);
    x.shop(0, 1, 0, 51);
    x.shop(0, 2, 0, 51);
    x.sale(0, 0, 5, 0, 4, 3, 5);
    x.sale(0, 1, 5, 0, 3, 0, 5);
    Due.is("below 0 is worth nothing", x.worth(1, 5), 600);
  }

  /** Shop 15 tells; the others are silent, worth 100 a size. */
  private static MostSold silent(int... sizes) {
    MostSold x = new MostSold();
    x.title(0);
    x.thing(0, 0, 9);
    for (int size : sizes) x.shop(0, size, 0, 51);
    x.shop(0, 1, 0, 51);
    x.sale(sizes.length, 0, 5, 0, 1, 0, 5);
    return x;
  }

  private static void ask() {
    MostSold x = silent(5, 6, 10, 1);
    Due.is("worth", x.worth(2, 5), 1000);
    Due.is("nothing", x.ask(5, 0), 0);
    Due.is("one", x.ask(5, 19), 4);
    Due.is("two", x.ask(5, 20), 6);
    Due.is("three", x.ask(5, 39), 7);
    Due.is("four", x.ask(5, 40), 15);
    x.coins(2, 20);
    Due.is("two for one", x.ask(5, 20), 3);
    x.coins(2, 21);
    x.coins(3, 0);
    Due.is("one for nothing", x.ask(5, 0), 8);
    Due.is("two and one for nothing", x.ask(5, 20), 11);
    Due.is("the greater one", x.ask(5, 31), 14);
    Due.is("another week", x.ask(6, 16000), 0);
    Due.is("all", x.ask(5, 16000), 15);
    Due.is("bad week", x.ask(52, 0), -2);
    Due.is("bad week", x.ask(-1, 0), -2);
    Due.is("bad coins", x.ask(5, -1), -2);
    Due.is("bad coins", x.ask(5, 16001), -2);
  }

  private static void askTies() {
    MostSold x = silent(3, 3, 3, 6, 2);
    Due.is("the least as bits", x.ask(5, 10), 8);
    x.coins(3, 20);
    Due.is("three and three or six: the least as bits", x.ask(5, 20), 3);
    x.coins(3, 19);
    Due.is("the fewest coins", x.ask(5, 20), 8);
    x.coins(3, 1000);
    x.coins(0, 11);
    Due.is("the fewest coins of two", x.ask(5, 21), 6);
    x.coins(2, 11);
    Due.is("of like coins the least as bits", x.ask(5, 21), 3);
    MostSold y = new MostSold();
    y.shop(0, 1, 0, 51);
    y.coins(0, 0);
    Due.is("worth nothing, for nothing: not asked", y.ask(5, 100), 0);
  }

  private static void askMost() {
    MostSold x = silent(1, 2, 3, 4, 5, 6, 7, 8, 9, 10, 11, 12, 13, 14, 15);
    Due.is("fifteen silent ones", x.ask(5, 150), 32767);
    Due.is("fourteen", x.ask(5, 149), 32766);
    Due.is("the fifteenth for all", x.ask(5, 10), 1 << 14);
    for (int s = 0; s < 15; s++) x.coins(s, 1000);
    Due.is("dear ones", x.ask(5, 14999), 32766);
    Due.is("dear ones, all", x.ask(5, 15000), 32767);
    for (int s = 0; s < 15; s++) x.coins(s, s + 1);
    Due.is("as dear as they are worth: the fewest coins are all, the least as bits", x.ask(5, 15), 31);
  }
}
