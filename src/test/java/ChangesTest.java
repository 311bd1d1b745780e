/** Promises 9, 22, 23: what is mended, undone and done again. */
public final class ChangesTest {
  private static final int VOID = SpeaksInTurn.VOID;

  public static void main(String[] args) {
    mended();
    undone();
    atMostForty();
    Due.end();
  }

  private static SpeaksInTurn table() {
    SpeaksInTurn x = new SpeaksInTurn();
    x.person(12, 345);
    x.person(67, 8901);
    x.thing(-5, 6);
    return x;
  }

  private static void mended() {
    SpeaksInTurn x = table();
    int[] least = {0, 0, 0, -99, 0};
    int[] most = {9, 9, 99, 99, 9};
    int[] was = {1, 2, 45, -5, 6};
    int[] told = {0, 1, 3, 10, 11};
    for (int what = 0; what < 5; what++) {
      Due.is("below", x.mend(0, what, least[what] - 1), VOID);
      Due.is("above", x.mend(0, what, most[what] + 1), VOID);
      Due.is("no such number", x.mend(what < 3 ? 2 : 1, what, 0), VOID);
      Due.is("number -1", x.mend(-1, what, 0), VOID);
      Due.is("number MAX", x.mend(Integer.MAX_VALUE, what, 0), VOID);
      Due.is("least", x.mend(0, what, least[what]), was[what]);
      Due.is("most", x.mend(0, what, most[what]), least[what]);
      Due.is("of", x.of(0, told[what]), most[what]);
    }
    Due.is("no such what", x.mend(0, 5, 0), VOID);
    Due.is("what -1", x.mend(0, -1, 0), VOID);
    Due.is("the wage stays", x.of(0, 2), 3);
    Due.is("the other one stays", x.of(1, 0), 6);
    Due.is("changes", x.count(4), 10);
  }

  private static void undone() {
    SpeaksInTurn x = table();
    Due.is("nothing to undo", x.undo(), -5);
    Due.is("nothing to redo", x.redo(), -5);
    x.mend(0, 0, 5);
    x.mend(0, 2, 50);
    x.mend(0, 3, 10);
    Due.is("the same number", x.mend(0, 3, 10), 10);
    Due.is("is no change", x.count(4), 3);
    Due.is("undo", x.undo(), 2);
    Due.is("worth as it was", x.of(0, 10), -5);
    Due.is("undo", x.undo(), 1);
    Due.is("late as it was", x.of(0, 3), 45);
    Due.is("the same number leaves what may be redone", x.mend(0, 2, 45), 45);
    Due.is("a bad one too", x.mend(0, 2, 100), VOID);
    Due.is("redo", x.redo(), 1);
    Due.is("late again", x.of(0, 3), 50);
    Due.is("may be undone", x.count(4), 2);
    Due.is("undo", x.undo(), 1);
    Due.is("undo", x.undo(), 0);
    Due.is("rank as it was", x.of(0, 0), 1);
    Due.is("none left", x.undo(), -5);
    Due.is("redo", x.redo(), 2);
    Due.is("rank again", x.of(0, 0), 5);
    Due.is("another change", x.mend(1, 1, 0), 7);
    Due.is("came behind", x.redo(), -5);
    Due.is("two may be undone", x.count(4), 2);
    Due.is("undo", x.undo(), 1);
    Due.is("voice as it was", x.of(1, 1), 7);
    Due.is("redo", x.redo(), 0);
    Due.is("none left", x.redo(), -5);
    Due.is("set is no change", x.set(2, 9), 3);
    x.person(0, 0);
    Due.is("nor is a person", x.count(4), 2);
  }

  private static void atMostForty() {
    SpeaksInTurn x = table();
    for (int i = 1; i <= 45; i++) {
      x.mend(0, 3, i);
      Due.is("changes", x.count(4), Math.min(i, 40));
    }
    for (int i = 39; i >= 0; i--) {
      Due.is("undo", x.undo(), i);
    }
    Due.is("only forty are kept", x.undo(), -5);
    Due.is("the fifth stays", x.of(0, 10), 5);
    for (int i = 39; i >= 0; i--) {
      Due.is("redo", x.redo(), i);
    }
    Due.is("all are done again", x.of(0, 10), 45);
    Due.is("none left", x.redo(), -5);
    x.undo();
    x.mend(0, 4, 1);
    Due.is("forty again", x.count(4), 40);
    Due.is("undo", x.undo(), 39);
    Due.is("undo", x.undo(), 38);
    Due.is("worth", x.of(0, 10), 43);
    Due.is("redo", x.redo(), 1);
    Due.is("worth", x.of(0, 10), 44);
    unlikeOnes();
  }

  /** Behind forty changes each one still knows whose it was, and of what. */
  private static void unlikeOnes() {
    SpeaksInTurn x = table();
    int[] whats = {0, 1, 2, 4};
    int[] told = {0, 1, 3, 11};
    int[] before = new int[50];
    for (int i = 0; i < 50; i++) {
      int number = i % 4 == 3 ? 0 : i % 3 % 2;
      int now = x.of(number, told[i % 4]);
      before[i] = x.mend(number, whats[i % 4], (now + 1 + i % 5) % 10);
      Due.is("mend", before[i], now);
    }
    for (int i = 49; i >= 10; i--) {
      Due.is("undo", x.undo(), i - 10);
      Due.is("as it was", x.of(i % 4 == 3 ? 0 : i % 3 % 2, told[i % 4]), before[i]);
    }
    Due.is("no more", x.undo(), -5);
  }
}
