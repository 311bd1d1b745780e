import java.util.HashSet;
import java.util.Set;
import java.util.function.IntToLongFunction;

/** What the tests share: each answer against the one that is due, and the end of a test. */
final class Due {
  static final int BAD = -1, NOT = -2, FULL = -3, STATE = -5, VOID = -2000000000;
  static final int NOTHING_THERE = -11, OTHER_KIND = -12, NO_PLACE = -13, BELOW_ZERO = -14;
  static final int MIN = Integer.MIN_VALUE, MAX = Integer.MAX_VALUE;
  static final int PROMISES = 33;

  private static final Set<String> sentences = new HashSet<>();
  private static final boolean[] named = new boolean[PROMISES + 1];
  private static String about = "";
  private static int wrong = 0;
  private static int asked = 0;
  private static int askedAhead = 0;

  private Due() { }

  /** The answers behind this one are due by one sentence of the document, which they name when they fail. */
  static void promise(int number, String sentence) {
    closeSentence();
    named[number] = true;
    about = "promise " + number + " (" + sentence + "): ";
    sentences.add(about);
    askedAhead = asked;
  }

  private static void closeSentence() {
    if (!about.isEmpty() && asked == askedAhead) {
      wrong++;
      System.out.println(about + "nothing was asked");
    }
    about = "";
  }

  /** Ends the sentences; each promise must have had some. */
  static void eachPromiseWasNamed() {
    closeSentence();
    for (int p = 1; p <= PROMISES; p++) {
      holds("promise " + p + " has a sentence", named[p]);
    }
    System.out.println(sentences.size() + " sentences");
  }

  static void is(String call, long got, long want) {
    asked++;
    if (got != want) {
      wrong++;
      System.out.println(about + call + " answered " + got + ", due is " + want);
    }
  }

  static void holds(String what, boolean so) {
    is(what, so ? 1 : 0, 1);
  }

  /** Each of these, and the least and the greatest int, is answered with this refusal. */
  static void refused(String call, IntToLongFunction asks, long refusal, int... values) {
    for (int v : values) {
      is(call + " of " + v, asks.applyAsLong(v), refusal);
    }
    is(call + " of the least int", asks.applyAsLong(MIN), refusal);
    is(call + " of the greatest int", asks.applyAsLong(MAX), refusal);
  }

  /** The answers for 0, 1, 2 and so on. */
  static void row(String call, IntToLongFunction asks, long... due) {
    for (int i = 0; i < due.length; i++) {
      is(call + " of " + i, asks.applyAsLong(i), due[i]);
    }
  }

  /** Feeds a text and makes it the law: what law() answered. */
  static int law(SpeaksInTurn x, String text) {
    for (int i = 0; i < text.length(); i++) {
      is("feed(" + text.charAt(i) + ")", x.feed(text.charAt(i)), i + 1);
    }
    return x.law();
  }

  static void end() {
    System.out.println(asked + " answers, " + wrong + " not as due");
    if (wrong != 0 || asked == 0) {
      System.exit(1);
    }
  }
}
