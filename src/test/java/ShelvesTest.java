/** Promises 5 and 27 to 33: shelves, rows, cards from a row, what is taken for a kind, and how many there are. */
public final class ShelvesTest {
  private static final int[] NO_SHELF = {-1, 6, Integer.MIN_VALUE, Integer.MAX_VALUE};

  public static void main(String[] args) {
    noShelf();
    kept();
    rows();
    elements();
    shifted();
    taken();
    cards();
    cardsEnd();
    count();
    Due.end();
  }

  private static void noShelf() {
    SpeaksInTurn x = new SpeaksInTurn();
    for (int s : NO_SHELF) {
      Due.is("keep", x.keep(s, -1), -1);
      Due.is("row", x.row(s, 0, 1), -1);
      Due.is("row below 0", x.row(s, 0, -1), -1);
      Due.is("put", x.put(s, 0, 0), -1);
      Due.is("element", x.element(s, 0), Long.MIN_VALUE);
      Due.is("shift", x.shift(s, 0, 0, 0, 0), -1);
      Due.is("shift", x.shift(0, 0, s, 0, 0), -1);
      Due.is("taken", x.taken(s, 0), -1);
      Due.is("cards", x.cards(s, 0, 1), -1);
      Due.is("film", x.film(s), -1);
    }
  }

  private static void kept() {
    SpeaksInTurn x = new SpeaksInTurn();
    Due.is("no such body", x.keep(0, 0), -1);
    Due.is("body -2", x.keep(0, -2), -1);
    x.body(3);
    Due.is("keep", x.keep(0, 0), 1);
    Due.is("no such body", x.keep(0, 1), -1);
    Due.is("held on", x.taken(0, 0), 3);
    Due.is("no row", x.put(0, 0, 1), -12);
    Due.is("no row", x.element(0, 0), Long.MIN_VALUE);
    Due.is("nothing", x.keep(0, -1), 1);
    Due.is("nothing there", x.taken(0, 0), -11);
    Due.is("nothing there", x.put(0, 0, 1), -11);
    x.row(0, 0, 3);
    Due.is("nothing for a row", x.keep(0, -1), 1);
    Due.is("nothing there", x.put(0, 0, 1), -11);
  }

  private static void rows() {
    SpeaksInTurn x = new SpeaksInTurn();
    Due.is("sort -1", x.row(0, -1, 1), -1);
    Due.is("sort 5", x.row(0, 5, 1), -1);
    Due.is("61", x.row(0, 0, 61), -1);
    Due.is("MAX", x.row(0, 0, Integer.MAX_VALUE), -1);
    Due.is("-1", x.row(0, 0, -1), -14);
    Due.is("MIN", x.row(0, 4, Integer.MIN_VALUE), -14);
    Due.is("sort ahead of size", x.row(0, 5, -1), -1);
    Due.is("still nothing", x.put(0, 0, 1), -11);
    Due.is("0 elements", x.row(0, 0, 0), 1);
    Due.is("no place", x.put(0, 0, 1), -13);
    Due.is("60 elements", x.row(0, 3, 60), 1);
    Due.is("the last", x.put(0, 59, 7), 1);
    Due.is("no place", x.put(0, 60, 7), -13);
    Due.is("refused", x.row(0, 0, -1), -14);
    Due.is("held on", x.element(0, 59), 7);
    Due.is("a new row", x.row(0, 3, 60), 1);
    Due.is("0 at first", x.element(0, 59), 0);
    x.body(0);
    x.keep(0, 0);
    Due.is("a row for a saying", x.row(0, 2, 1), 1);
    Due.is("is no saying", x.taken(0, 0), -12);
  }

  private static void elements() {
    SpeaksInTurn x = new SpeaksInTurn();
    long[] put = {0, 1, -1, 127, 128, 255, 256, 32768, 65536, 1L << 31, 1L << 32, Long.MAX_VALUE, Long.MIN_VALUE};
    for (int sort = 0; sort < 5; sort++) {
      x.row(sort, sort, 2);
      for (long v : put) {
        long due = sort == 0 ? (byte) v : sort == 1 ? (short) v : sort == 2 ? (int) v : sort == 3 ? v : v != 0 ? 1 : 0;
        Due.is("put", x.put(sort, 1, v), 1);
        Due.is("sort " + sort + " element of " + v, x.element(sort, 1), due);
        Due.is("the other", x.element(sort, 0), 0);
      }
      int[] places = {-1, 2, 60, Integer.MIN_VALUE, Integer.MAX_VALUE};
      for (int i : places) {
        Due.is("put at " + i, x.put(sort, i, 1), -13);
        Due.is("element at " + i, x.element(sort, i), Long.MIN_VALUE);
      }
    }
    Due.is("nothing", x.element(5, 0), Long.MIN_VALUE);
  }

  private static SpeaksInTurn withRow() {
    SpeaksInTurn x = new SpeaksInTurn();
    x.row(0, 2, 6);
    x.row(1, 2, 4);
    for (int i = 0; i < 6; i++) {
      x.put(0, i, 10 + i);
    }
    return x;
  }

  private static void shows(SpeaksInTurn x, int shelf, int... due) {
    for (int i = 0; i < due.length; i++) {
      Due.is("element(" + shelf + ", " + i + ")", x.element(shelf, i), due[i]);
    }
  }

  private static void shifted() {
    SpeaksInTurn x = withRow();
    Due.is("shift", x.shift(0, 1, 1, 2, 2), 2);
    shows(x, 1, 0, 0, 11, 12);
    shows(x, 0, 10, 11, 12, 13, 14, 15);
    Due.is("up", x.shift(0, 0, 0, 1, 5), 5);
    shows(x, 0, 10, 10, 11, 12, 13, 14);
    Due.is("down", x.shift(0, 2, 0, 0, 4), 4);
    shows(x, 0, 11, 12, 13, 14, 13, 14);
    Due.is("onto itself", x.shift(0, 0, 0, 0, 6), 6);
    Due.is("none at the end", x.shift(0, 6, 1, 4, 0), 0);
    int[][] bad = {{-1, 0, 1}, {0, -1, 1}, {6, 0, 1}, {0, 4, 1}, {0, 0, 5}, {5, 0, 2}, {0, 3, 2}, {7, 0, 0}, {0, 5, 0},
        {0, 0, -1}, {Integer.MAX_VALUE, 0, 1}, {1, 0, Integer.MAX_VALUE}, {0, Integer.MAX_VALUE, Integer.MAX_VALUE},
        {0, 0, Integer.MIN_VALUE}, {Integer.MIN_VALUE, 0, Integer.MIN_VALUE}};
    for (int[] b : bad) {
      Due.is("no place " + b[0] + " " + b[1] + " " + b[2], x.shift(0, b[0], 1, b[1], b[2]), -13);
    }
    shows(x, 1, 0, 0, 11, 12);
    x.row(2, 1, 6);
    x.body(0);
    x.keep(3, 0);
    x.keep(4, 0);
    Due.is("unlike sorts", x.shift(0, 0, 2, 0, 1), -12);
    Due.is("unlike sorts ahead of places", x.shift(0, 9, 2, 9, 9), -12);
    Due.is("a saying", x.shift(3, 0, 0, 0, 1), -12);
    Due.is("a saying", x.shift(0, 0, 3, 0, 1), -12);
    Due.is("sayings", x.shift(3, 0, 4, 0, 0), -12);
    Due.is("nothing", x.shift(5, 0, 0, 0, 1), -11);
    Due.is("nothing", x.shift(0, 0, 5, 0, 1), -11);
    Due.is("nothing ahead of a saying", x.shift(3, 0, 5, 0, 1), -11);
    Due.is("nothing ahead of a saying", x.shift(5, 0, 3, 0, 1), -11);
  }

  private static void taken() {
    SpeaksInTurn x = new SpeaksInTurn();
    boolean[][] under = new boolean[8][8];
    int[][] chains = {{0}, {1, 0}, {2, 0}, {3, 2, 0}, {4, 0}, {5, 3, 2, 0}, {6, 0}, {7, 4, 0}};
    for (int kind = 0; kind < 8; kind++) {
      for (int k : chains[kind]) {
        under[kind][k] = true;
      }
      x.body(kind);
      x.keep(1, kind);
      for (int k = 0; k < 8; k++) {
        Due.is("kind " + kind + " taken for " + k, x.taken(1, k), under[kind][k] ? kind : -12);
      }
    }
    Due.is("k -1", x.taken(1, -1), -1);
    Due.is("k 8", x.taken(1, 8), -1);
    Due.is("bad ahead of nothing", x.taken(0, 8), -1);
    Due.is("nothing", x.taken(0, 7), -11);
    x.row(0, 0, 0);
    Due.is("a row", x.taken(0, 0), -12);
  }

  private static void fill(SpeaksInTurn x, int shelf, int... values) {
    x.row(shelf, 1, values.length);
    for (int i = 0; i < values.length; i++) {
      x.put(shelf, i, values[i]);
    }
  }

  private static void cards() {
    SpeaksInTurn x = new SpeaksInTurn();
    x.thing(0, 0);
    x.thing(0, 0);
    fill(x, 0, 7, 1, -9, 1023, 0, 9, 0, 1, 2, 3);
    Due.is("two from place 1", x.cards(0, 1, 2), 2);
    int[] due = {1, -9, 1023, 0, 9, 0};
    for (int i = 0; i < 6; i++) {
      Due.is("of", x.of(i / 3, 20 + i % 3), due[i]);
    }
    Due.is("as many as the row has", x.cards(0, 1, 20), 3);
    Due.is("cards", x.count(2), 5);
    Due.is("n 0", x.cards(0, 0, 0), -1);
    Due.is("n 21", x.cards(0, 0, 21), -1);
    Due.is("n MIN", x.cards(0, 0, Integer.MIN_VALUE), -1);
    Due.is("a row that is missing", x.cards(1, 0, 1), 0);
    Due.is("bad ahead of missing", x.cards(1, 0, 0), -1);
    x.row(2, 2, 3);
    Due.is("a row of ints", x.cards(2, 0, 1), -12);
    x.body(0);
    x.keep(3, 0);
    Due.is("a saying", x.cards(3, 0, 1), -12);
    Due.is("cards", x.count(2), 5);
  }

  private static void cardsEnd() {
    SpeaksInTurn x = new SpeaksInTurn();
    x.thing(0, 0);
    fill(x, 0, 0, 1, 1, 0, 2);
    Due.is("ends within a three", x.cards(0, 0, 2), 1);
    int[] places = {3, 4, 5, 6, 60, -1, -3, Integer.MAX_VALUE, Integer.MIN_VALUE};
    for (int i : places) {
      Due.is("ends at " + i, x.cards(0, i, 2), 0);
    }
    int[][] notSo = {{1, 0, 0}, {-1, 0, 0}, {0, 10, 0}, {0, -10, 0}, {0, 0, 1024}, {0, 0, -1}};
    for (int[] b : notSo) {
      fill(x, 0, 0, 3, 3, b[0], b[1], b[2], 0, 4, 4);
      Due.is("one is not so", x.cards(0, 0, 3), 1);
    }
    Due.is("cards", x.count(2), 7);
    x.row(0, 1, 60);
    Due.is("till they are full", x.cards(0, 0, 20), 13);
    Due.is("full", x.cards(0, 0, 1), 0);
    Due.is("full", x.card(0, 0, 0), -3);
  }

  private static void count() {
    SpeaksInTurn x = new SpeaksInTurn();
    x.person(1, 1);
    x.thing(1, 1);
    x.thing(1, 1);
    x.card(0, 1, 1);
    x.card(0, 1, 1);
    x.card(0, 1, 1);
    for (int i = 0; i < 4; i++) {
      x.feed('r');
    }
    for (int i = 0; i < 5; i++) {
      x.mend(0, 2, 50 + i);
    }
    for (int i = 0; i < 6; i++) {
      x.body(7);
    }
    x.act(5, 3, 0);
    for (int i = 0; i < 6; i++) {
      Due.is("count(" + i + ")", x.count(i), i + 1);
    }
    Due.is("count(6)", x.count(6), 11);
    int[] bad = {-1, 7, Integer.MIN_VALUE, Integer.MAX_VALUE};
    for (int what : bad) {
      Due.is("count(" + what + ")", x.count(what), -1);
    }
  }
}
