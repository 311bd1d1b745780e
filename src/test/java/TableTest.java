/** Promises 1 to 6, 8, 10: a new object, people, things, cards, the tape's bytes, what is set, what is told of each. */
public final class TableTest {
  private static final int VOID = SpeaksInTurn.VOID;

  public static void main(String[] args) {
    empty();
    people();
    things();
    cards();
    bytes();
    settings();
    of();
    Due.end();
  }

  private static void empty() {
    SpeaksInTurn x = new SpeaksInTurn();
    for (int what = 0; what <= 6; what++) {
      Due.is("new count(" + what + ")", x.count(what), 0);
    }
    Due.is("new told(0)", x.told(0), -5);
    Due.is("new rule in force", x.set(0, 0), 0);
    Due.is("new standing", x.set(1, 0), 0);
    Due.is("new timer", x.set(2, 3), 3);
    Due.is("new undo", x.undo(), -5);
    Due.is("new redo", x.redo(), -5);
    for (int shelf = 0; shelf < 6; shelf++) {
      Due.is("new shelf", x.taken(shelf, 0), -11);
    }
    Due.is("new trace", x.trace(0), -1);
  }

  private static void people() {
    SpeaksInTurn x = new SpeaksInTurn();
    int[][] bad = {{-1, 0}, {100, 0}, {0, -1}, {0, 10000}, {Integer.MIN_VALUE, 0}, {Integer.MAX_VALUE, 0},
        {0, Integer.MIN_VALUE}, {0, Integer.MAX_VALUE}};
    for (int[] b : bad) {
      Due.is("person bad", x.person(b[0], b[1]), -1);
    }
    Due.is("none came", x.count(0), 0);
    Due.is("person(0, 0)", x.person(0, 0), 0);
    Due.is("person(99, 9999)", x.person(99, 9999), 1);
    for (int i = 2; i < 10; i++) {
      Due.is("person " + i, x.person(40 + i, 1200 + i), i);
    }
    Due.is("bad ahead of full", x.person(100, 0), -1);
    Due.is("full", x.person(0, 0), -3);
    Due.is("ten", x.count(0), 10);
  }

  private static void things() {
    SpeaksInTurn x = new SpeaksInTurn();
    int[][] bad = {{-100, 0}, {100, 0}, {0, -1}, {0, 10}, {Integer.MIN_VALUE, 0}, {0, Integer.MAX_VALUE}};
    for (int[] b : bad) {
      Due.is("thing bad", x.thing(b[0], b[1]), -1);
    }
    Due.is("thing(-99, 0)", x.thing(-99, 0), 0);
    Due.is("thing(99, 9)", x.thing(99, 9), 1);
    for (int i = 2; i < 6; i++) {
      Due.is("thing " + i, x.thing(i, i), i);
    }
    Due.is("bad ahead of full", x.thing(0, 10), -1);
    Due.is("full", x.thing(0, 0), -3);
    Due.is("six", x.count(1), 6);
  }

  private static void cards() {
    SpeaksInTurn x = new SpeaksInTurn();
    Due.is("no such thing yet", x.card(0, 0, 0), -1);
    x.thing(0, 0);
    int[][] bad = {{-1, 0, 0}, {1, 0, 0}, {0, -10, 0}, {0, 10, 0}, {0, 0, -1}, {0, 0, 1024},
        {Integer.MIN_VALUE, 0, 0}, {0, Integer.MAX_VALUE, 0}, {0, 0, Integer.MIN_VALUE}};
    for (int[] b : bad) {
      Due.is("card bad", x.card(b[0], b[1], b[2]), -1);
    }
    Due.is("card(0, -9, 0)", x.card(0, -9, 0), 0);
    Due.is("people who are not there yet", x.card(0, 9, 1023), 1);
    for (int i = 2; i < 20; i++) {
      Due.is("card " + i, x.card(0, 0, i), i);
    }
    Due.is("bad ahead of full", x.card(1, 0, 0), -1);
    Due.is("full", x.card(0, 0, 0), -3);
    Due.is("twenty", x.count(2), 20);
  }

  private static void bytes() {
    SpeaksInTurn x = new SpeaksInTurn();
    Due.is("feed(-1)", x.feed(-1), -1);
    Due.is("feed(256)", x.feed(256), -1);
    Due.is("feed(MIN)", x.feed(Integer.MIN_VALUE), -1);
    Due.is("feed(0)", x.feed(0), 1);
    Due.is("feed(255)", x.feed(255), 2);
    for (int i = 3; i <= 120; i++) {
      Due.is("feed " + i, x.feed('1'), i);
    }
    Due.is("bad ahead of full", x.feed(256), -1);
    Due.is("full", x.feed('1'), -3);
    Due.is("bytes", x.count(3), 120);
    Due.is("the first byte is at fault", x.law(), -100);
    Due.is("empty then", x.count(3), 0);
  }

  private static void settings() {
    SpeaksInTurn x = new SpeaksInTurn();
    int[][] bad = {{-1, 0}, {3, 0}, {0, -1}, {0, 6}, {1, -1}, {1, 2}, {2, 0}, {2, 10},
        {Integer.MAX_VALUE, 0}, {0, Integer.MIN_VALUE}};
    for (int[] b : bad) {
      Due.is("set bad", x.set(b[0], b[1]), -1);
    }
    Due.is("set(0, 5)", x.set(0, 5), 0);
    Due.is("set(0, 2)", x.set(0, 2), 5);
    Due.is("set(1, 1)", x.set(1, 1), 0);
    Due.is("set(1, 0)", x.set(1, 0), 1);
    Due.is("set(2, 9)", x.set(2, 9), 3);
    Due.is("set(2, 1)", x.set(2, 1), 9);
    Due.is("no change that may be undone", x.count(4), 0);
  }

  private static void of() {
    SpeaksInTurn x = new SpeaksInTurn();
    x.person(37, 4210);
    x.thing(-12, 8);
    x.card(0, -7, 513);
    int[][] due = {{0, 3}, {1, 7}, {2, 42}, {3, 10}, {10, -12}, {11, 8}, {20, 0}, {21, -7}, {22, 513}};
    for (int[] d : due) {
      Due.is("of(0, " + d[0] + ")", x.of(0, d[0]), d[1]);
      Due.is("of(1, " + d[0] + ")", x.of(1, d[0]), VOID);
      Due.is("of(-1, " + d[0] + ")", x.of(-1, d[0]), VOID);
      Due.is("of(MAX, " + d[0] + ")", x.of(Integer.MAX_VALUE, d[0]), VOID);
    }
    int[] bad = {-1, 4, 9, 12, 19, 23, Integer.MIN_VALUE, Integer.MAX_VALUE};
    for (int what : bad) {
      Due.is("of(0, " + what + ")", x.of(0, what), VOID);
    }
  }
}
