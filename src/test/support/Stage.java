/** Small objects that the tests of the edges begin with. */
final class Stage {
  static final int SOLD = 0, HEARD = 1, BUNDLE = 2, BACK = 3;

  private Stage() {}

  /** TITLES that came OUT in 0, with a THING each (of its number, FORM 0, 9 MADE); SHOPS of KIND 0, SIZE 1, always OPEN. */
  static MostSold of(int titles, int shops) {
    MostSold x = new MostSold();
    for (int t = 0; t < titles; t++) {
      x.title(0);
      x.thing(t, 0, 9);
    }
    for (int s = 0; s < shops; s++) x.shop(0, 1, 0, 51);
    return x;
  }

  static MostSold of(int titles, int shops, String rules) {
    MostSold x = of(titles, shops);
    Due.typeAll(x, rules);
    return x;
  }

  /** A SALE told in its own WEEK, at HOUR 0. */
  static int sale(MostSold x, int shop, int thing, int week, int many, int sort) {
    return x.sale(shop, thing, week, 0, many, sort, week);
  }

  static int sold(MostSold x, int shop, int thing, int week, int many) {
    return sale(x, shop, thing, week, many, SOLD);
  }
}
