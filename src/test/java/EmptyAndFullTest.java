import java.util.ArrayList;
import java.util.List;
import java.util.function.Consumer;

/** Every call, at each edge of its numbers, on objects that hold nothing, some things only, and all that an object holds. */
public final class EmptyAndFullTest {
  private static final int MOST_CALLS = 512;
  private static final int[] WEEK = {-1, 0, 5, 51, 52};
  private static final int[] ASKED = {5, 0, 51, 52};
  private static final int[] TITLE = {-1, 0, 11, 12};
  private static final int[] THING = {-1, 0, 23, 24};
  private static final int[] SHOP = {-1, 0, 15, 16};
  private static final int[] SALE = {-1, 0, 1, 75, 149, 150};
  private static final int[] SHEET = {-1, 0, 3, 4};
  private static final int[] MOULD = {2, 4};
  private static final int[] ITEM = {-1, 0, 119, 120};

  private record Call(String name, int[] args) {}

  public static void main(String[] args) {
    battery("nothing", t -> {});
    battery("titles only", EmptyAndFullTest::titles);
    battery("titles and things only", EmptyAndFullTest::things);
    battery("shops only", EmptyAndFullTest::shops);
    battery("no sales", t -> {
      things(t);
      shops(t);
    });
    battery("no titles came out", t -> {
      for (int i = 0; i < 12; i++) t.call("title", 51);
      for (int i = 0; i < 24; i++) t.call("thing", i % 12, i % 4, 100 * i);
      shops(t);
      sales(t, 40);
    });
    battery("full of sales", EmptyAndFullTest::full);
    battery("full of bundles and of what came back", t -> {
      things(t);
      shops(t);
      for (int i = 0; i < 150; i++) t.call("sale", i % 16, i % 24, 5 + i % 2, i, 100000 - i, i % 5 == 0 ? 3 : 2, 6);
    });
    battery("full of rules", t -> {
      things(t);
      shops(t);
      sales(t, 20);
      rules(t, "h=1;".repeat(44) + "t=2;r=1;b=0;o=1;c=99@5");
    });
    battery("of one week and one shop", t -> {
      t.call("title", 5);
      t.call("thing", 0, 0, 100);
      t.call("shop", 0, 100, 5, 5);
      for (int i = 0; i < 150; i++) t.call("sale", 0, 0, 5, i, 100000, i % 4, 5);
    });
    Due.close();
  }

  private static void titles(Twins t) {
    for (int i = 0; i < 12; i++) t.call("title", i / 2);
  }

  private static void things(Twins t) {
    titles(t);
    for (int i = 0; i < 24; i++) t.call("thing", i % 12, i % 4, 1000 * i);
  }

  private static void shops(Twins t) {
    for (int i = 0; i < 16; i++) t.call("shop", i % 4, 1 + 6 * i, i % 3, 51 - i % 5);
  }

  private static void sales(Twins t, int n) {
    for (int i = 0; i < n; i++) t.call("sale", i % 13, i * 7 % 24, i % 11 == 0 ? 6 : 5, i, 1 + i * i, i % 3, 6 + i % 4);
  }

  private static void full(Twins t) {
    things(t);
    shops(t);
    sales(t, 150);
    for (int s = 0; s < 4; s++) t.call("sheet", s, 2, 120);
  }

  private static void rules(Twins t, String text) {
    for (int i = 0; i < text.length(); i++) t.call("type", text.charAt(i));
  }

  /** Each call on a new object, or on one that has room for it. */
  private static void battery(String stage, Consumer<Twins> build) {
    Twins t = null;
    String last = "";
    for (Call c : calls()) {
      if (t == null || !c.name.equals(last) || t.calls() >= MOST_CALLS - 1) {
        t = new Twins(stage);
        build.accept(t);
      }
      t.call(c.name, c.args);
      last = c.name;
    }
  }

  private static List<Call> calls() {
    List<Call> all = new ArrayList<>();
    put(all, "title", WEEK);
    put(all, "thing", TITLE, new int[] {3, 4}, new int[] {1000000, 1000001});
    put(all, "shop", new int[] {3, 4}, new int[] {100, 101}, new int[] {0, 51, 52}, WEEK);
    put(all, "tells", SHOP, WEEK);
    put(all, "empty", SHOP, new int[] {0, 5, 51}, WEEK);
    put(all, "coins", SHOP, new int[] {-1, 0, 1000, 1001});
    put(all, "sale", SHOP, THING, new int[] {5}, new int[] {167, 168}, new int[] {100000}, new int[] {0}, new int[] {5, 51});
    put(all, "read", SHEET);
    put(all, "about", SALE, new int[] {-1, 0, 4, 7, 8, 9});
    put(all, "strike", SALE, WEEK);
    put(all, "back", SALE);
    put(all, "asOf", WEEK);
    put(all, "type", new int[] {-1, 0, 'h', 255, 256});
    put(all, "wipe");
    put(all, "fault");
    put(all, "rule", new int[] {-1, 0, 14, 15}, WEEK);
    put(all, "why", new int[] {-1, 0, 14, 15}, WEEK);
    put(all, "amount", SHOP, THING, ASKED, ASKED);
    put(all, "sum", TITLE, ASKED, new int[] {5, 51}, new int[] {0, 1, 2, 3});
    put(all, "sure", TITLE, ASKED);
    put(all, "place", TITLE, ASKED, ASKED);
    put(all, "line", ASKED, ASKED, new int[] {-1, 0, 11, 12});
    put(all, "span", TITLE, ASKED, new int[] {0, 1, 2});
    put(all, "firm", WEEK);
    put(all, "alike", SHOP, SHOP, ASKED, new int[] {0, 1, 2, 3, 4});
    put(all, "odd", WEEK);
    put(all, "cannot", THING);
    put(all, "doubted", SALE);
    put(all, "moves", SALE);
    put(all, "worth", SHOP, WEEK);
    put(all, "ask", ASKED, new int[] {-1, 0, 10, 155, 16000, 16001});
    put(all, "sheet", SHEET, MOULD, new int[] {-1, 0, 120, 121});
    put(all, "lose", SHEET);
    put(all, "put", SHEET, MOULD, ITEM, new int[] {7});
    put(all, "get", SHEET, MOULD, ITEM);
    put(all, "copy", SHEET, ITEM, new int[] {0, 3}, ITEM, new int[] {0, 1, 120, 121});
    put(all, "write", SHEET, WEEK);
    put(all, "count", new int[] {-1, 0, 1, 2, 3, 4, 5, 6, 7, 8, 9});
    put(all, "digest");
    return all;
  }

  private static void put(List<Call> all, String name, int[]... numbers) {
    put(all, name, new int[numbers.length], 0, numbers);
  }

  private static void put(List<Call> all, String name, int[] args, int at, int[][] numbers) {
    if (at == numbers.length) {
      all.add(new Call(name, args.clone()));
      return;
    }
    for (int number : numbers[at]) {
      args[at] = number;
      put(all, name, args, at + 1, numbers);
    }
  }
}
