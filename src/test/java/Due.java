/** What the tests share: each answer against the one that is due, and the end of a test. */
final class Due {
  private static int wrong = 0;
  private static int asked = 0;

  private Due() { }

  static void is(String call, long got, long want) {
    asked++;
    if (got != want) {
      wrong++;
      System.out.println(call + " answered " + got + ", due is " + want);
    }
  }

  static void holds(String what, boolean so) {
    is(what, so ? 1 : 0, 1);
  }

  /** Feeds a text and makes it the law: what law() answered. */
  static int law(SpeaksInTurn x, String text) {
    for (int i = 0; i < text.length(); i++) {
      is("feed(" + text.charAt(i) + ")", x.feed(text.charAt(i)), i + 1);
    }
    return x.law();
  }

  static void end() {
    System.out.println(asked + " answers, " + wrong + " not as due");
    if (wrong != 0 || asked == 0) {
      System.exit(1);
    }
  }
}
