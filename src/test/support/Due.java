/** Keeps count of answers that are not as due; a test ends with exit code 1 if there was one. */
final class Due {
  private static int asked = 0;
  private static int wrong = 0;

  private Due() {}

  static void is(String call, long got, long want) {
    asked++;
    if (got != want) {
      wrong++;
      if (wrong <= 50) System.out.println(call + " answered " + got + ", due is " + want);
    }
  }

  static boolean anyWrong() {
    return wrong != 0;
  }

  /** Types a text of rules, a byte after the other. */
  static void typeAll(MostSold x, String text) {
    for (int i = 0; i < text.length(); i++) x.type(text.charAt(i));
  }

  /** Puts rules in the place of those that stand. */
  static void rules(MostSold x, String text) {
    x.wipe();
    typeAll(x, text);
  }

  static void close() {
    System.out.println(wrong == 0 ? asked + " answers are as due" : wrong + " of " + asked + " answers are not as due");
    if (wrong != 0) System.exit(1);
  }
}
