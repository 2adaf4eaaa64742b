import java.math.BigInteger;
import java.util.ArrayList;
import java.util.Arrays;
import java.util.HashMap;
import java.util.HashSet;
import java.util.List;
import java.util.Map;
import java.util.Set;
import java.util.TreeSet;
import java.util.regex.Matcher;
import java.util.regex.Pattern;

/** The document read a second time, word by word and without any care for speed, to hold MostSold against. */
final class Model {
  static final int NONE = -1, BAD = -2, NOT = -3, FULL = -4;
  private static final long LEAST = Long.MIN_VALUE;

  private record Thing(int title, int form, int made) {}

  private record Shop(int kind, int size, int from, int to, int[] coins) {}

  private record Sale(int shop, int thing, int week, int hour, int many, int sort, int told, int[] struck) {}

  private record Part(String name, int number, int from) {}

  private final List<Integer> titles = new ArrayList<>();
  private final List<Thing> things = new ArrayList<>();
  private final List<Shop> shops = new ArrayList<>();
  private final List<Sale> sales = new ArrayList<>();
  private final Map<List<Integer>, Set<Integer>> empties = new HashMap<>();
  private final StringBuilder text = new StringBuilder();
  private final long[][] rows = new long[4][];
  private final int[] moulds = new int[4];
  private int asOf = 51;
  private int finding = 0;
  private Sale neverTold = null;

  private static boolean in(long v, long least, long most) {
    return v >= least && v <= most;
  }

  private static boolean weeks(int... ws) {
    return Arrays.stream(ws).allMatch(w -> in(w, 0, 51));
  }

  private static <T> boolean has(List<T> list, long i) {
    return in(i, 0, list.size() - 1);
  }

  // ---- titles, things, shops

  int title(int out) {
    if (!weeks(out)) return BAD;
    if (titles.size() == 12) return FULL;
    titles.add(out);
    return titles.size() - 1;
  }

  int thing(int title, int form, int made) {
    if (!has(titles, title) || !in(form, 0, 3) || !in(made, 0, 1000000)) return BAD;
    if (things.size() == 24) return FULL;
    things.add(new Thing(title, form, made));
    return things.size() - 1;
  }

  int shop(int kind, int size, int from, int to) {
    if (!in(kind, 0, 3) || !in(size, 1, 100) || !weeks(from, to) || from > to) return BAD;
    if (shops.size() == 16) return FULL;
    shops.add(new Shop(kind, size, from, to, new int[] {10}));
    return shops.size() - 1;
  }

  private boolean open(int shop, int w) {
    return in(w, shops.get(shop).from, shops.get(shop).to);
  }

  private boolean known(Sale s) {
    return s != neverTold && s.told <= asOf && !(s.struck[0] != NONE && s.struck[0] <= asOf);
  }

  private boolean telling(int shop, int w) {
    if (!open(shop, w)) return false;
    if (sales.stream().anyMatch(s -> s.shop == shop && s.week == w && known(s))) return true;
    return empties.getOrDefault(List.of(shop, w), Set.of()).stream().anyMatch(told -> told <= asOf);
  }

  private boolean silent(int shop, int w) {
    return open(shop, w) && !telling(shop, w);
  }

  int tells(int shop, int week) {
    if (!has(shops, shop) || !weeks(week)) return BAD;
    return !open(shop, week) ? 0 : telling(shop, week) ? 2 : 1;
  }

  int empty(int shop, int week, int told) {
    if (!has(shops, shop) || !weeks(week, told) || told < week) return BAD;
    Set<Integer> said = empties.computeIfAbsent(List.of(shop, week), k -> new TreeSet<>());
    boolean already = said.stream().anyMatch(t -> t <= told);
    said.add(told);
    return already ? 0 : 1;
  }

  int coins(int shop, int c) {
    if (!has(shops, shop) || !in(c, 0, 1000)) return BAD;
    int was = shops.get(shop).coins[0];
    shops.get(shop).coins[0] = c;
    return was;
  }

  // ---- sales

  int sale(long shop, long thing, long week, long hour, long many, long sort, long told) {
    if (!has(shops, shop) || !has(things, thing) || !in(week, 0, 51) || !in(hour, 0, 167)) return BAD;
    if (!in(many, 1, 100000) || !in(sort, 0, 3) || !in(told, week, 51)) return BAD;
    if (sales.size() == 150) return FULL;
    sales.add(new Sale((int) shop, (int) thing, (int) week, (int) hour, (int) many, (int) sort, (int) told, new int[] {NONE}));
    return sales.size() - 1;
  }

  int read(int s) {
    if (!in(s, 0, 3)) return BAD;
    if (rows[s] == null) return found(1);
    long[] r = rows[s];
    int n = 0;
    while (7 * n + 7 <= r.length) {
      int i = 7 * n;
      if (sale(r[i], r[i + 1], r[i + 2], r[i + 3], r[i + 4], r[i + 5], r[i + 6]) < 0) break;
      n++;
    }
    return n;
  }

  int about(int sale, int what) {
    if (!has(sales, sale) || !in(what, 0, 8)) return -1000;
    Sale s = sales.get(sale);
    return new int[] {s.shop, s.thing, s.week, s.hour, s.many, s.sort, s.told, s.struck[0], known(s) ? 1 : 0}[what];
  }

  int strike(int sale, int week) {
    if (!has(sales, sale) || !weeks(week)) return BAD;
    Sale s = sales.get(sale);
    if (s.struck[0] != NONE || week < s.told) return NOT;
    s.struck[0] = week;
    return 1;
  }

  int back(int sale) {
    if (!has(sales, sale)) return BAD;
    int was = sales.get(sale).struck[0];
    sales.get(sale).struck[0] = NONE;
    return was == NONE ? NOT : was;
  }

  int asOf(int week) {
    if (!weeks(week)) return BAD;
    int was = asOf;
    asOf = week;
    return was;
  }

  // ---- rules

  int type(int b) {
    if (!in(b, 0, 255)) return BAD;
    if (text.length() == 200) return FULL;
    text.append((char) b);
    return text.length();
  }

  int wipe() {
    int was = text.length();
    text.setLength(0);
    return was;
  }

  private static final String PART = "([hbrloct]|[fk][0-3])=([0-9]{1,4})(@([0-9]{1,2}))?";
  private static final Pattern WHOLE = Pattern.compile(PART + "(;" + PART + ")*");
  private static final Pattern ONE = Pattern.compile(PART);

  private static int[] bounds(String name) {
    switch (name.charAt(0)) {
      case 'h': return new int[] {1, 9999, 100};
      case 'b': return new int[] {0, 1, 1};
      case 'r': return new int[] {0, 51, 0};
      case 'l': return new int[] {0, 51, 51};
      case 'o': return new int[] {0, 167, 0};
      case 'c': return new int[] {0, 167, 167};
      case 't': return new int[] {0, 2, 0};
      default: return new int[] {0, 500, 100};
    }
  }

  /** Whether some text that begins so has the form of rules. */
  private static boolean canGoOn(String begin) {
    Matcher m = WHOLE.matcher(begin);
    return m.matches() || m.hitEnd();
  }

  int fault() {
    String all = text.toString();
    int stop = NONE;
    if (!WHOLE.matcher(all).matches()) {
      stop = 0;
      while (stop < all.length() && canGoOn(all.substring(0, stop + 1))) stop++;
    }
    String good = stop == NONE ? all : all.substring(0, stop);
    Matcher m = ONE.matcher(good);
    while (m.find()) {
      int[] b = bounds(m.group(1));
      if (!in(Integer.parseInt(m.group(2)), b[0], b[1])) return m.start(2);
      if (m.group(4) != null && Integer.parseInt(m.group(4)) > 51) return m.start(4);
    }
    return stop;
  }

  private String parsedText = null;
  private List<Part> parsedParts = null;

  private List<Part> parts() {
    if (!text.toString().equals(parsedText)) {
      parsedText = text.toString();
      parsedParts = new ArrayList<>();
      Matcher m = ONE.matcher(parsedText);
      while (fault() == NONE && m.find()) {
        int from = m.group(4) == null ? 0 : Integer.parseInt(m.group(4));
        parsedParts.add(new Part(m.group(1), Integer.parseInt(m.group(2)), from));
      }
    }
    return parsedParts;
  }

  private static final List<String> NAMES =
      List.of("h", "b", "r", "l", "o", "c", "f0", "f1", "f2", "f3", "k0", "k1", "k2", "k3", "t");

  int why(int item, int week) {
    if (!in(item, 0, 14) || !weeks(week)) return BAD;
    List<Part> parts = parts();
    for (int i = parts.size() - 1; i >= 0; i--) {
      if (parts.get(i).name.equals(NAMES.get(item)) && parts.get(i).from <= week) return i;
    }
    return NONE;
  }

  int rule(int item, int week) {
    int why = why(item, week);
    if (why == BAD) return BAD;
    return why == NONE ? bounds(NAMES.get(item))[2] : parts().get(why).number;
  }

  private int rule(String name, int week) {
    return rule(NAMES.indexOf(name), week);
  }

  // ---- sums, lists

  private boolean counts(Sale s, int v) {
    return known(s) && s.told <= s.week + rule("l", v) && s.hour >= rule("o", v) && s.hour <= rule("c", v);
  }

  private long many(int shop, int thing, int sort, int w, int v) {
    return sales.stream().filter(s -> s.shop == shop && s.thing == thing && s.sort == sort && s.week == w && counts(s, v))
        .mapToLong(Sale::many).sum();
  }

  long amount(int shop, int thing, int week, int v) {
    if (!has(shops, shop) || !has(things, thing) || !weeks(week, v)) return LEAST;
    long all = many(shop, thing, 0, week, v);
    if (rule("b", v) == 1) all += many(shop, thing, 2, week, v);
    all += many(shop, thing, 1, week, v) / rule("h", v);
    return all - many(shop, thing, 3, week + rule("r", v), v);
  }

  private static BigInteger big(long v) {
    return BigInteger.valueOf(v);
  }

  private BigInteger toldAt(int title, int kind, int w, int v, int out) {
    BigInteger all = BigInteger.ZERO;
    for (int s = 0; s < shops.size(); s++) {
      if (shops.get(s).kind != kind || !telling(s, w) || s == out) continue;
      for (int t = 0; t < things.size(); t++) {
        if (things.get(t).title != title) continue;
        BigInteger share = big(rule("f" + things.get(t).form, v)).multiply(big(rule("k" + kind, v)));
        all = all.add(big(amount(s, t, w, v)).multiply(share).divide(big(100)));
      }
    }
    return all;
  }

  private long sizes(int kind, int w, int out, boolean whichTell) {
    long all = 0;
    for (int s = 0; s < shops.size(); s++) {
      if (shops.get(s).kind == kind && open(s, w) && (telling(s, w) && s != out) == whichTell) all += shops.get(s).size;
    }
    return all;
  }

  private BigInteger told(int title, int w, int v, int out) {
    BigInteger all = BigInteger.ZERO;
    for (int kind = 0; kind < 4; kind++) all = all.add(toldAt(title, kind, w, v, out));
    return all;
  }

  private BigInteger foretold(int title, int w, int v, int out) {
    BigInteger all = BigInteger.ZERO;
    for (int kind = 0; kind < 4; kind++) {
      long tell = sizes(kind, w, out, true);
      if (tell == 0) continue;
      all = all.add(toldAt(title, kind, w, v, out).multiply(big(sizes(kind, w, out, false))).divide(big(tell)));
    }
    return all;
  }

  private long whole(int title, int w, int v, int out) {
    return told(title, w, v, out).add(foretold(title, w, v, out)).longValueExact();
  }

  long sum(int title, int week, int v, int what) {
    if (!has(titles, title) || !weeks(week, v) || !in(what, 0, 2)) return LEAST;
    if (what == 0) return whole(title, week, v, NONE);
    return (what == 1 ? told(title, week, v, NONE) : foretold(title, week, v, NONE)).longValueExact();
  }

  int sure(int title, int week) {
    if (!has(titles, title) || !weeks(week)) return BAD;
    long all = whole(title, week, week, NONE);
    if (all <= 0) return NOT;
    BigInteger share = big(10000).multiply(told(title, week, week, NONE)).divide(big(all));
    return share.min(big(1000000)).max(big(-1000000)).intValueExact();
  }

  private List<Integer> list(int w, int v, int out) {
    Map<Integer, Long> sums = new HashMap<>();
    for (int t = 0; t < titles.size(); t++) {
      if (titles.get(t) <= w && whole(t, w, v, out) > 0) sums.put(t, whole(t, w, v, out));
    }
    List<Integer> list = new ArrayList<>(sums.keySet());
    boolean laterFirst = rule("t", v) == 1;
    list.sort((a, b) -> {
      int c = Long.compare(sums.get(b), sums.get(a));
      if (c == 0 && laterFirst) c = Integer.compare(titles.get(b), titles.get(a));
      return c != 0 ? c : Integer.compare(a, b);
    });
    return list;
  }

  int place(int title, int week, int v) {
    if (!has(titles, title) || !weeks(week, v)) return BAD;
    List<Integer> list = list(week, v, NONE);
    if (!list.contains(title)) return NONE;
    if (rule("t", v) != 2) return 1 + list.indexOf(title);
    long own = whole(title, week, v, NONE);
    return 1 + (int) list.stream().filter(t -> whole(t, week, v, NONE) > own).count();
  }

  int line(int week, int v, int i) {
    if (!weeks(week, v) || i < 0) return BAD;
    List<Integer> list = list(week, v, NONE);
    return i < list.size() ? list.get(i) : NONE;
  }

  long span(int title, int week, int end) {
    if (!has(titles, title) || !weeks(week) || !in(end, 0, 1)) return LEAST;
    TreeSet<Long> all = new TreeSet<>(List.of(whole(title, week, week, NONE)));
    for (int s = 0; s < shops.size(); s++) if (telling(s, week)) all.add(whole(title, week, week, s));
    return end == 0 ? all.first() : all.last();
  }

  int firm(int week) {
    if (!weeks(week)) return BAD;
    List<Integer> list = list(week, week, NONE);
    if (list.isEmpty()) return NOT;
    for (int s = 0; s < shops.size(); s++) {
      if (!telling(s, week)) continue;
      List<Integer> without = list(week, week, s);
      if (without.isEmpty() || !without.get(0).equals(list.get(0))) return 0;
    }
    return 1;
  }

  // ---- doubts

  private Set<Integer> hours(int shop, int w) {
    Set<Integer> hours = new HashSet<>();
    for (Sale s : sales) if (s.shop == shop && s.week == w && s.sort == 0 && counts(s, w)) hours.add(s.hour % 24);
    return hours;
  }

  private static BigInteger ways(int n, int m) {
    if (m < 0 || m > n) return BigInteger.ZERO;
    BigInteger all = BigInteger.ONE;
    for (int i = 1; i <= m; i++) all = all.multiply(big(n - m + i)).divide(big(i));
    return all;
  }

  private static int chance(int n, int m, int k) {
    BigInteger some = BigInteger.ZERO;
    for (int j = k; j <= 24; j++) some = some.add(ways(n, j).multiply(ways(24 - n, m - j)));
    return some.multiply(big(1000000)).divide(ways(24, m)).intValueExact();
  }

  int alike(int a, int b, int week, int what) {
    if (!has(shops, a) || !has(shops, b) || a == b || !weeks(week) || !in(what, 0, 3)) return BAD;
    Set<Integer> both = hours(a, week);
    both.retainAll(hours(b, week));
    int[] nmk = {hours(a, week).size(), hours(b, week).size(), both.size()};
    return what < 3 ? nmk[what] : chance(nmk[0], nmk[1], nmk[2]);
  }

  int odd(int week) {
    if (!weeks(week)) return BAD;
    TreeSet<Long> pairs = new TreeSet<>();
    for (int a = 0; a < shops.size(); a++) {
      for (int b = a + 1; b < shops.size(); b++) {
        if (hours(a, week).isEmpty() || hours(b, week).isEmpty()) continue;
        pairs.add(10000L * alike(a, b, week, 3) + 100 * a + b);
      }
    }
    return pairs.isEmpty() ? NONE : (int) (pairs.first() % 10000);
  }

  /** The sales of a thing that cannot be; null if more than 12 others. */
  private Set<Integer> impossible(int thing) {
    Set<Integer> all = new HashSet<>();
    List<Integer> others = new ArrayList<>();
    for (int i = 0; i < sales.size(); i++) {
      Sale s = sales.get(i);
      if (s.thing != thing || !known(s) || s.sort % 2 == 1) continue;
      boolean outOfTime = !open(s.shop, s.week) || s.week < titles.get(things.get(thing).title);
      if (outOfTime) all.add(i);
      else others.add(i);
    }
    if (others.size() > 12) return null;
    long together = others.stream().mapToLong(i -> sales.get(i).many).sum();
    int best = 0;
    List<Long> bestKey = null;
    for (int bits = 0; bits < 1 << others.size(); bits++) {
      long taken = 0;
      for (int i = 0; i < others.size(); i++) if ((bits & 1 << i) != 0) taken += sales.get(others.get(i)).many;
      if (together - taken > things.get(thing).made) continue;
      List<Long> key = List.of((long) Integer.bitCount(bits), taken, (long) bits);
      if (bestKey == null || less(key, bestKey)) {
        bestKey = key;
        best = bits;
      }
    }
    for (int i = 0; i < others.size(); i++) if ((best & 1 << i) != 0) all.add(others.get(i));
    return all;
  }

  private static boolean less(List<Long> a, List<Long> b) {
    for (int i = 0; i < a.size(); i++) if (!a.get(i).equals(b.get(i))) return a.get(i) < b.get(i);
    return false;
  }

  int cannot(int thing) {
    if (!has(things, thing)) return BAD;
    Set<Integer> all = impossible(thing);
    return all == null ? FULL : all.size();
  }

  int doubted(int sale) {
    if (!has(sales, sale)) return BAD;
    Set<Integer> all = impossible(sales.get(sale).thing);
    return all == null ? FULL : all.contains(sale) ? 1 : 0;
  }

  private List<Integer> places(int w) {
    List<Integer> all = new ArrayList<>();
    for (int t = 0; t < titles.size(); t++) all.add(place(t, w, w));
    return all;
  }

  long moves(int sale) {
    if (!has(sales, sale)) return LEAST + 2;
    Sale s = sales.get(sale);
    if (!known(s)) return LEAST + 3;
    long bits = 0;
    for (int w = 0; w < 52; w++) {
      List<Integer> with = places(w);
      neverTold = s;
      List<Integer> without = places(w);
      neverTold = null;
      if (!with.equals(without)) bits |= 1L << w;
    }
    return bits;
  }

  // ---- asking

  private BigInteger worthOf(int shop, int w) {
    BigInteger all = BigInteger.ZERO;
    int kind = shops.get(shop).kind;
    long tell = sizes(kind, w, NONE, true);
    for (int t = 0; t < titles.size() && tell > 0; t++) {
      BigInteger told = toldAt(t, kind, w, w, NONE);
      if (told.signum() >= 0) all = all.add(told.multiply(big(shops.get(shop).size)).divide(big(tell)));
    }
    return all;
  }

  long worth(int shop, int week) {
    if (!has(shops, shop) || !weeks(week)) return LEAST + 2;
    if (!silent(shop, week)) return LEAST + 3;
    return worthOf(shop, week).longValueExact();
  }

  int ask(int week, int coins) {
    if (!weeks(week) || !in(coins, 0, 16000)) return BAD;
    long[] worth = new long[16];
    int may = 0;
    for (int s = 0; s < shops.size(); s++) {
      if (!silent(s, week)) continue;
      may |= 1 << s;
      worth[s] = worthOf(s, week).longValueExact();
    }
    long most = 0;
    int cost = 0;
    int best = 0;
    for (int bits = may; bits > 0; bits = bits - 1 & may) {
      long w = 0;
      int c = 0;
      for (int s = 0; s < shops.size(); s++) {
        if ((bits & 1 << s) == 0) continue;
        w += worth[s];
        c += shops.get(s).coins[0];
      }
      if (c > coins) continue;
      if (w > most || w == most && (c < cost || c == cost && bits < best)) {
        most = w;
        cost = c;
        best = bits;
      }
    }
    return best;
  }

  // ---- sheets

  private int found(int number) {
    finding = number;
    return -10 - number;
  }

  int sheet(int s, int mould, int n) {
    if (!in(s, 0, 3) || !in(mould, 0, 3) || n > 120) return BAD;
    if (n < 0) return found(5);
    rows[s] = new long[n];
    moulds[s] = mould;
    return n;
  }

  int lose(int s) {
    if (!in(s, 0, 3)) return BAD;
    if (rows[s] == null) return found(1);
    int was = rows[s].length;
    rows[s] = null;
    return was;
  }

  private static long lowest(int mould, long v) {
    int bits = new int[] {8, 16, 32, 64}[mould];
    return v << 64 - bits >> 64 - bits;
  }

  int put(int s, int mould, int i, long v) {
    if (!in(s, 0, 3) || !in(mould, 0, 3)) return BAD;
    if (rows[s] == null) return found(1);
    if (moulds[s] != mould) return found(3);
    if (!in(i, 0, rows[s].length - 1)) return found(2);
    rows[s][i] = lowest(mould, v);
    return 1;
  }

  long get(int s, int mould, int i) {
    if (!in(s, 0, 3) || !in(mould, 0, 3)) return LEAST;
    int wrong = rows[s] == null ? 1 : moulds[s] != mould ? 3 : !in(i, 0, rows[s].length - 1) ? 2 : 0;
    if (wrong == 0) return rows[s][i];
    found(wrong);
    return LEAST;
  }

  int copy(int s, int i, int t, int j, int n) {
    if (!in(s, 0, 3) || !in(t, 0, 3)) return BAD;
    if (rows[s] == null || rows[t] == null) return found(1);
    if (moulds[s] != moulds[t]) return found(4);
    if (i < 0 || j < 0 || n < 0 || (long) i + n > rows[s].length || (long) j + n > rows[t].length) return found(2);
    long[] was = rows[s].clone();
    for (int k = 0; k < n; k++) rows[t][j + k] = was[i + k];
    return 1;
  }

  int write(int s, int week) {
    if (!in(s, 0, 3) || !weeks(week)) return BAD;
    if (rows[s] == null) return found(1);
    int n = 0;
    for (int t : list(week, week, NONE)) {
      for (long v : new long[] {t, whole(t, week, week, NONE)}) {
        if (n < rows[s].length) rows[s][n++] = lowest(moulds[s], v);
      }
    }
    return n;
  }

  int count(int what) {
    switch (what) {
      case 0: return titles.size();
      case 1: return things.size();
      case 2: return shops.size();
      case 3: return sales.size();
      case 4: return (int) sales.stream().filter(this::known).count();
      case 5: return asOf;
      case 6: return text.length();
      case 7: return empties.size();
      case 8: return finding;
      default: return BAD;
    }
  }

  long digest() {
    List<Long> all = new ArrayList<>();
    for (int what = 0; what < 8; what++) all.add((long) count(what));
    all.add((long) fault());
    for (int w = 0; w <= 50; w += 5) {
      List<Integer> list = list(w, w, NONE);
      all.add((long) list.size());
      for (int t : list) {
        all.add((long) t);
        all.add(whole(t, w, w, NONE));
      }
    }
    long h = 17;
    for (long v : all) h = 31 * h + v;
    return h;
  }
}
