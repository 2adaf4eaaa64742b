import java.util.function.IntToLongFunction;

/** Keeps count of answers that are not as due; a test ends with exit code 1 if there was one. */
final class Due {
  private static int asked = 0;
  private static int wrong = 0;
  private static String sentence = "";

  private Due() {}

  /** The document's words that the next answers are held against. */
  static void says(String words) {
    sentence = "[" + words + "] ";
  }

  static void is(String call, long got, long want) {
    asked++;
    if (got != want) {
      wrong++;
      if (wrong <= 50) System.out.println(sentence + call + " answered " + got + ", due is " + want);
    }
  }

  static void same(String what, String got, String want) {
    is(what + ": " + got + " for " + want, got.equals(want) ? 1 : 0, 1);
  }

  /** From least to most a number is taken, and answered by due; beside them, and far from them, it is refused. */
  static void edges(String call, int least, int most, long due, long refusal, IntToLongFunction f) {
    is(call + " of " + least, f.applyAsLong(least), due);
    is(call + " of " + most, f.applyAsLong(most), due);
    for (int number : new int[] {least - 1, most + 1, Integer.MIN_VALUE, Integer.MAX_VALUE}) {
      is(call + " of " + number, f.applyAsLong(number), refusal);
    }
  }

  static boolean anyWrong() {
    return wrong != 0;
  }

  /** Types a text of rules, a byte after the other. */
  static void typeAll(MostSold x, String text) {
    for (int i = 0; i < text.length(); i++) x.type(text.charAt(i));
  }

  /** Puts rules in the place of those that stand. */
  static void rules(MostSold x, String text) {
    x.wipe();
    typeAll(x, text);
  }

  static void close() {
    System.out.println(wrong == 0 ? asked + " answers are as due" : wrong + " of " + asked + " answers are not as due");
    if (wrong != 0) System.exit(1);
  }
}
