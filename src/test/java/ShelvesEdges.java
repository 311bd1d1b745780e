import java.util.function.IntToLongFunction;

/** The boundary cases of promises 24 to 33: acts and shelves. */
final class ShelvesEdges {
  private ShelvesEdges() { }

  static void run() {
    body();
    actNone();
    actWraps();
    actNumber();
    trace();
    longestTrace();
    keep();
    rowRefused();
    rowEmptyAndFull();
    putRefused();
    putLowestBits();
    element();
    shiftRefused();
    shiftPlaces();
    shiftWraps();
    shiftOverItself();
    taken();
    count();
    countFull();
  }

  // ---- promises 24 to 26

  private static void body() {
    SpeaksInTurn x = new SpeaksInTurn();
    Due.promise(24, "a KIND (0 .. 7)");
    Due.refused("body", x::body, Due.BAD, -1, 8);
    Due.is("count(5)", x.count(5), 0);
    Due.is("body(0)", x.body(0), 0);
    Due.is("body(7)", x.body(7), 1);
    Due.promise(24, "FULL: BODIES 0 .. 49");
    for (int i = 2; i < 50; i++) {
      Due.is("body(7)", x.body(7), i);
    }
    Due.is("the next", x.body(0), Due.FULL);
    Due.is("and again", x.body(7), Due.FULL);
    Due.is("count(5)", x.count(5), 50);
    Due.promise(24, "of several answers BAD ahead of FULL");
    Due.refused("body", x::body, Due.BAD, -1, 8);
    Due.promise(27, "a SAYING: the last of 50");
    Due.is("keep(0, 49)", x.keep(0, 49), 1);
    Due.is("taken(0, 7)", x.taken(0, 7), 7);
    Due.is("keep(0, 50)", x.keep(0, 50), Due.BAD);
    Due.promise(25, "n its number: the last of 50");
    Due.is("act(49, 0, 0)", x.act(49, 0, 0), 49);
    Due.is("act(49, 2, 0)", x.act(49, 2, 0), 49 - (2 + 49));
  }

  private static void actNone() {
    SpeaksInTurn x = new SpeaksInTurn();
    Due.promise(25, "0, and no TRACE then: no such SAYING");
    Due.is("act(0, 0, 7) without any", x.act(0, 0, 7), 0);
    x.body(0);
    x.body(0);
    for (int body : new int[] {-1, 2, 49, 50, Due.MIN, Due.MAX}) {
      noTrace(x, body, 0);
    }
    Due.promise(25, "0, and no TRACE then: no such ACT");
    for (int act : new int[] {-1, 4, 5, Due.MIN, Due.MAX}) {
      noTrace(x, 1, act);
    }
    Due.promise(25, "an ACT (0 .. 3)");
    Due.row("act(1, v, 7)", v -> x.act(1, v, 7), 8, 16, 6, 16 - 0);
  }

  private static void noTrace(SpeaksInTurn x, int body, int act) {
    Due.is("act(1, 0, 7)", x.act(1, 0, 7), 8);
    Due.is("a TRACE", x.trace(0), 1);
    Due.is("act(" + body + ", " + act + ", 7)", x.act(body, act, 7), 0);
    Due.is("no TRACE", x.trace(0), Due.BAD);
    Due.is("count(6)", x.count(6), 0);
  }

  private static void actWraps() {
    SpeaksInTurn x = new SpeaksInTurn();
    for (int kind = 0; kind < 8; kind++) {
      x.body(kind);
    }
    Due.promise(25, "x (an int that wraps)");
    Due.is("1 knows", x.act(0, 0, Due.MIN), Due.MIN);
    Due.is("1 knows, wrapped", x.act(3, 0, Due.MAX), Due.MIN + 2);
    Due.is("10 speaks, wrapped", x.act(0, 1, Due.MAX), -2);
    Due.is("10 speaks of the least", x.act(0, 1, Due.MIN), 0);
    Due.is("11 stops", x.act(7, 2, Due.MIN), (Due.MIN ^ 7) - 9);
    Due.is("2 decides, wrapped", x.act(4, 3, 1 << 30), (((1 << 30) + 4) * 2) - ((1 ^ 4) - 6));
    Due.is("20 knows, wrapped", x.act(1, 0, Due.MAX), Due.MIN + 3);
    Due.is("30 speaks: minus the least is the least", x.act(2, 1, (1 << 30) - 2), Due.MIN);
    Due.is("40 stops, wrapped", x.act(3, 2, Due.MAX), (Due.MAX ^ 3) * 3);
    Due.is("41 speaks: x and 1 wraps", x.act(3, 1, Due.MAX), -((Due.MIN + 3) * 2));
    Due.is("50 stops, wrapped", x.act(4, 2, Due.MIN), (Due.MIN ^ 4) - 6);
    Due.is("60 decides", x.act(5, 3, Due.MAX), (-((Due.MIN + 5) * 2) - (1 ^ 5) * 3) ^ 5);
    Due.is("70 knows, wrapped", x.act(6, 0, Due.MAX), (Due.MIN + 5) * 2);
    Due.is("80 speaks, wrapped", x.act(7, 1, Due.MAX), (Due.MIN + 6) * 2 + ((2 ^ 7) - 9));
    Due.is("81 decides, wrapped", x.act(7, 3, Due.MAX), (Due.MIN + 6) * 2 + ((2 ^ 7) - 9) - ((1 ^ 7) - 9) - 1);
  }

  private static void actNumber() {
    SpeaksInTurn x = new SpeaksInTurn();
    x.body(0);
    x.body(0);
    Due.promise(25, "n its number: the first is 0");
    Due.is("act(0, 0, -1)", x.act(0, 0, -1), -1);
    Due.is("act(0, 2, -1)", x.act(0, 2, -1), -1);
    Due.is("act(1, 0, -1)", x.act(1, 0, -1), 0);
    Due.is("act(1, 2, -1)", x.act(1, 2, -1), -2);
    Due.promise(26, "an act that answers 0 has a TRACE");
    Due.is("act(1, 0, -1)", x.act(1, 0, -1), 0);
    Due.is("trace(0)", x.trace(0), 1);
    Due.is("count(6)", x.count(6), 1);
  }

  private static void trace() {
    SpeaksInTurn x = new SpeaksInTurn();
    Due.promise(26, "BAD: there was no act() yet");
    Due.refused("trace", x::trace, Due.BAD, -1, 0, 1, 23, 24);
    x.body(4);
    x.act(0, 2, 0);
    Due.promise(26, "BAD: behind the last that ran");
    Due.row("trace", x::trace, 50, 11, 1, Due.BAD);
    Due.refused("trace", x::trace, Due.BAD, -1, 3, 4, 23, 24, 25);
    Due.promise(26, "of the latest act(): a shorter one leaves nothing of a longer one");
    x.act(0, 0, 0);
    Due.row("trace", x::trace, 1, Due.BAD, Due.BAD);
    Due.is("count(6)", x.count(6), 1);
  }

  private static void longestTrace() {
    SpeaksInTurn x = new SpeaksInTurn();
    x.body(7);
    Due.promise(26, "the longest that runs is kept whole");
    x.act(0, 3, 0);
    Due.row("trace", x::trace, 81, 2, 80, 10, 1, 50, 11, 1, 50, 11, 1, Due.BAD);
    Due.is("count(6)", x.count(6), 11);
    Due.promise(26, "what others tell and keep leaves THE TRACE");
    x.body(0);
    x.keep(0, 0);
    x.taken(0, 0);
    x.row(1, 0, 1);
    Due.is("trace(10)", x.trace(10), 1);
    Due.is("count(6)", x.count(6), 11);
  }

  // ---- promises 27 and 28

  private static void keep() {
    SpeaksInTurn x = new SpeaksInTurn();
    Due.promise(27, "BAD: a SHELF 0 .. 5");
    Due.refused("keep(v, -1)", v -> x.keep(v, -1), Due.BAD, -1, 6);
    Due.is("keep(5, -1)", x.keep(5, -1), 1);
    Due.is("keep(0, -1)", x.keep(0, -1), 1);
    Due.promise(27, "BAD: no such body, without any");
    Due.refused("keep(0, v)", v -> x.keep(0, v), Due.BAD, -2, 0, 1);
    x.body(6);
    x.body(5);
    Due.promise(27, "a SAYING: the first and the last body");
    Due.refused("keep(0, v)", v -> x.keep(0, v), Due.BAD, -2, 2, 49, 50);
    Due.is("keep(0, 0)", x.keep(0, 0), 1);
    Due.is("taken(0, 0)", x.taken(0, 0), 6);
    Due.is("keep(5, 1)", x.keep(5, 1), 1);
    Due.is("taken(5, 0)", x.taken(5, 0), 5);
    Due.refused("keep(0, v)", v -> x.keep(0, v), Due.BAD, -2, 2);
    Due.is("a refused one leaves it", x.taken(0, 0), 6);
    Due.promise(27, "nothing (body -1)");
    Due.is("keep(0, -1)", x.keep(0, -1), 1);
    Due.is("taken(0, 0)", x.taken(0, 0), Due.NOTHING_THERE);
    Due.is("of a ROW", x.row(0, 3, 60), 1);
    Due.is("keep(0, -1)", x.keep(0, -1), 1);
    Due.is("put(0, 0, 1)", x.put(0, 0, 1), Due.NOTHING_THERE);
    Due.is("the other one stays", x.taken(5, 0), 5);
  }

  private static void rowRefused() {
    SpeaksInTurn x = new SpeaksInTurn();
    Due.promise(28, "BAD: a SHELF 0 .. 5");
    Due.refused("row(v, 0, 1)", v -> x.row(v, 0, 1), Due.BAD, -1, 6);
    Due.promise(28, "BAD: sort 0 .. 4");
    Due.refused("row(0, v, 1)", v -> x.row(0, v, 1), Due.BAD, -1, 5);
    Due.promise(28, "BAD: n above 60");
    for (int n : new int[] {61, 62, Due.MAX}) {
      Due.is("row(0, 0, " + n + ")", x.row(0, 0, n), Due.BAD);
    }
    Due.promise(28, "-14: a size below 0");
    for (int n : new int[] {-1, -60, -61, Due.MIN}) {
      Due.is("row(0, 0, " + n + ")", x.row(0, 0, n), Due.BELOW_ZERO);
    }
    Due.promise(28, "of several answers BAD ahead of -14");
    Due.refused("row(v, 0, -1)", v -> x.row(v, 0, -1), Due.BAD, -1, 6);
    Due.refused("row(0, v, -1)", v -> x.row(0, v, -1), Due.BAD, -1, 5);
    Due.promise(28, "a refused one leaves the SHELF");
    Due.is("it holds nothing", x.put(0, 0, 1), Due.NOTHING_THERE);
    x.row(0, 0, 1);
    x.put(0, 0, 7);
    x.row(0, 0, -1);
    x.row(0, 0, 61);
    x.row(0, 5, 1);
    Due.is("it holds a ROW", x.element(0, 0), 7);
  }

  private static void rowEmptyAndFull() {
    SpeaksInTurn x = new SpeaksInTurn();
    for (int sort = 0; sort < 5; sort++) {
      Due.promise(28, "of 0 .. 60 elements: sort " + sort);
      Due.is("row of 0", x.row(5, sort, 0), 1);
      Due.is("it has no place", x.put(5, 0, 1), Due.NO_PLACE);
      Due.is("row of 1", x.row(5, sort, 1), 1);
      Due.is("its only place", x.put(5, 0, 1), 1);
      Due.is("no more", x.put(5, 1, 1), Due.NO_PLACE);
      Due.is("row of 60", x.row(5, sort, 60), 1);
      Due.promise(28, "0 at first (false): sort " + sort);
      for (int i = 0; i < 60; i += i == 0 ? 1 : i == 1 ? 57 : 1) {
        Due.is("element(5, " + i + ")", x.element(5, i), 0);
        Due.is("put(5, " + i + ", 1)", x.put(5, i, 1), 1);
        Due.is("element(5, " + i + ")", x.element(5, i), 1);
      }
      Due.is("behind it", x.element(5, 60), Long.MIN_VALUE);
      x.row(5, sort, 60);
      Due.is("a new ROW begins anew", x.element(5, 0), 0);
      Due.is("a new ROW ends anew", x.element(5, 59), 0);
      x.put(5, 59, 1);
      x.row(5, sort, 1);
      x.row(5, sort, 60);
      Due.is("behind a shorter one, too", x.element(5, 59), 0);
    }
    Due.promise(28, "SHELVES are apart");
    Due.is("row of 60", x.row(4, 3, 60), 1);
    x.put(4, 59, 5);
    Due.is("the other one's last", x.element(5, 59), 0);
    Due.is("no ROW there", x.put(3, 0, 1), Due.NOTHING_THERE);
  }

  // ---- promises 29 and 30

  private static void putRefused() {
    SpeaksInTurn x = new SpeaksInTurn();
    Due.promise(29, "BAD: a SHELF 0 .. 5");
    Due.refused("put(v, 0, 1)", v -> x.put(v, 0, 1), Due.BAD, -1, 6);
    Due.refused("put(v, -1, 1)", v -> x.put(v, -1, 1), Due.BAD, -1, 6);
    Due.promise(29, "-11: nothing is there");
    Due.refused("put(0, v, 1)", v -> x.put(0, v, 1), Due.NOTHING_THERE, -1, 0, 60);
    x.body(0);
    x.keep(0, 0);
    Due.promise(29, "-12: a SAYING");
    Due.refused("put(0, v, 1)", v -> x.put(0, v, 1), Due.OTHER_KIND, -1, 0, 60);
    Due.promise(29, "-13: a place that is not there");
    for (int n : new int[] {0, 1, 2, 59, 60}) {
      x.row(0, 2, n);
      Due.refused("put(0, v, 1) in " + n, v -> x.put(0, v, 1), Due.NO_PLACE, -1, n, n + 1, 60, 61);
      for (int i = 0; i < n; i += Math.max(1, n - 1)) {
        Due.is("put(0, " + i + ", 5) in " + n, x.put(0, i, 5), 1);
      }
    }
  }

  private static void putLowestBits() {
    SpeaksInTurn x = new SpeaksInTurn();
    Due.promise(29, "keeps its lowest bits: a byte");
    keeps(x, 0, 127, 127, 128, -128, -128, -128, -129, 127, 255, -1, 256, 0, -256, 0, Long.MAX_VALUE, -1,
        Long.MIN_VALUE, 0);
    Due.promise(29, "keeps its lowest bits: a short");
    keeps(x, 1, 32767, 32767, 32768, -32768, -32768, -32768, -32769, 32767, 65535, -1, 65536, 0, -65536, 0,
        Long.MAX_VALUE, -1, Long.MIN_VALUE, 0);
    Due.promise(29, "keeps its lowest bits: an int");
    keeps(x, 2, Due.MAX, Due.MAX, Due.MAX + 1L, Due.MIN, Due.MIN, Due.MIN, Due.MIN - 1L, Due.MAX, (1L << 32) - 1, -1,
        1L << 32, 0, -1L << 32, 0, Long.MAX_VALUE, -1, Long.MIN_VALUE, 0);
    Due.promise(29, "keeps all its bits: a long");
    keeps(x, 3, Long.MAX_VALUE, Long.MAX_VALUE, Long.MIN_VALUE, Long.MIN_VALUE, -1, -1, 1L << 32, 1L << 32);
    Due.promise(29, "a boolean: whether it is not 0; 1 or 0");
    keeps(x, 4, 1, 1, 0, 0, 2, 1, -1, 1, 256, 1, 1L << 32, 1, 1L << 63, 1, Long.MAX_VALUE, 1, 0, 0);
  }

  /** What is put in, and behind each what is there then. */
  private static void keeps(SpeaksInTurn x, int sort, long... pairs) {
    x.row(0, sort, 3);
    for (int i = 0; i + 1 < pairs.length; i += 2) {
      Due.is("put(0, 1, " + pairs[i] + ")", x.put(0, 1, pairs[i]), 1);
      Due.is("element(0, 1) of " + pairs[i], x.element(0, 1), pairs[i + 1]);
    }
    Due.is("the one ahead", x.element(0, 0), 0);
    Due.is("the one behind", x.element(0, 2), 0);
  }

  private static void element() {
    SpeaksInTurn x = new SpeaksInTurn();
    Due.promise(30, "Long.MIN_VALUE: BAD");
    Due.refused("element(v, 0)", v -> x.element(v, 0), Long.MIN_VALUE, -1, 6);
    Due.promise(30, "Long.MIN_VALUE: -11");
    Due.refused("element(0, v)", v -> x.element(0, v), Long.MIN_VALUE, -1, 0, 1);
    x.body(0);
    x.keep(0, 0);
    Due.promise(30, "Long.MIN_VALUE: -12");
    Due.refused("element(0, v)", v -> x.element(0, v), Long.MIN_VALUE, -1, 0, 1);
    Due.promise(30, "Long.MIN_VALUE: -13");
    for (int n : new int[] {0, 1, 59, 60}) {
      x.row(0, 3, n);
      Due.refused("element(0, v) of " + n, v -> x.element(0, v), Long.MIN_VALUE, -1, n, n + 1, 60);
    }
    Due.promise(30, "the first and the last element");
    x.put(0, 0, Long.MAX_VALUE);
    x.put(0, 59, -1);
    Due.is("element(0, 0)", x.element(0, 0), Long.MAX_VALUE);
    Due.is("element(0, 59)", x.element(0, 59), -1);
  }

  // ---- promise 31

  private static SpeaksInTurn withRows() {
    SpeaksInTurn x = new SpeaksInTurn();
    x.row(0, 2, 6);
    x.row(5, 2, 4);
    for (int i = 0; i < 6; i++) {
      x.put(0, i, 10 + i);
    }
    return x;
  }

  private static void shows(SpeaksInTurn x, int shelf, long... due) {
    Due.row("element(" + shelf + ", v)", i -> x.element(shelf, i), due);
  }

  private static void shiftRefused() {
    SpeaksInTurn x = withRows();
    x.body(0);
    x.keep(2, 0);
    x.keep(3, 0);
    Due.promise(31, "BAD: a SHELF 0 .. 5, either");
    Due.refused("shift(v, 0, 0, 0, 1)", v -> x.shift(v, 0, 0, 0, 1), Due.BAD, -1, 6);
    Due.refused("shift(0, 0, v, 0, 1)", v -> x.shift(0, 0, v, 0, 1), Due.BAD, -1, 6);
    Due.refused("shift(v, 0, 1, 0, 1) to nothing", v -> x.shift(v, 0, 1, 0, 1), Due.BAD, -1, 6);
    Due.refused("shift(1, 0, v, 0, 1) of nothing", v -> x.shift(1, 0, v, 0, 1), Due.BAD, -1, 6);
    Due.promise(31, "-11 (either)");
    Due.is("of nothing", x.shift(1, 0, 0, 0, 1), Due.NOTHING_THERE);
    Due.is("to nothing", x.shift(0, 0, 1, 0, 1), Due.NOTHING_THERE);
    Due.is("of nothing to nothing", x.shift(1, 0, 1, 0, 0), Due.NOTHING_THERE);
    Due.promise(31, "-11 ahead of -12 and -13");
    Due.is("of nothing to a SAYING", x.shift(1, 0, 2, 0, 1), Due.NOTHING_THERE);
    Due.is("of a SAYING to nothing", x.shift(2, 0, 1, 0, 1), Due.NOTHING_THERE);
    Due.is("of nothing from -1 on", x.shift(1, -1, 0, -1, -1), Due.NOTHING_THERE);
    Due.promise(31, "-12: no ROWS");
    Due.is("of a SAYING", x.shift(2, 0, 0, 0, 1), Due.OTHER_KIND);
    Due.is("to a SAYING", x.shift(0, 0, 2, 0, 1), Due.OTHER_KIND);
    Due.is("of a SAYING to another one", x.shift(2, 0, 3, 0, 0), Due.OTHER_KIND);
    Due.is("of a SAYING to itself", x.shift(2, 0, 2, 0, 0), Due.OTHER_KIND);
    Due.promise(31, "-12: of unlike sorts; ahead of -13");
    for (int a = 0; a < 5; a++) {
      for (int b = 0; b < 5; b++) {
        x.row(2, a, 2);
        x.row(3, b, 2);
        Due.is("of " + a + " to " + b, x.shift(2, 0, 3, 0, 1), a == b ? 1 : Due.OTHER_KIND);
        Due.is("of " + a + " to " + b + " from 3 on", x.shift(2, 3, 3, 3, 1), a == b ? Due.NO_PLACE : Due.OTHER_KIND);
      }
    }
    shows(x, 0, 10, 11, 12, 13, 14, 15);
    shows(x, 5, 0, 0, 0, 0);
  }

  private static void shiftPlaces() {
    Due.promise(31, "n elements: all, one, none");
    SpeaksInTurn x = withRows();
    Due.is("shift(0, 0, 5, 0, 4)", x.shift(0, 0, 5, 0, 4), 4);
    shows(x, 5, 10, 11, 12, 13);
    Due.is("shift(0, 2, 5, 0, 4)", x.shift(0, 2, 5, 0, 4), 4);
    shows(x, 5, 12, 13, 14, 15);
    Due.is("shift(0, 5, 5, 3, 1)", x.shift(0, 5, 5, 3, 1), 1);
    Due.is("shift(0, 0, 5, 3, 1)", x.shift(0, 0, 5, 3, 1), 1);
    shows(x, 5, 12, 13, 14, 10);
    Due.is("shift(5, 3, 0, 5, 1)", x.shift(5, 3, 0, 5, 1), 1);
    shows(x, 0, 10, 11, 12, 13, 14, 10);
    Due.is("shift(0, 0, 5, 0, 0)", x.shift(0, 0, 5, 0, 0), 0);
    Due.is("none at both ends", x.shift(0, 6, 5, 4, 0), 0);
    shows(x, 5, 12, 13, 14, 10);
    Due.promise(31, "-13: a place that is not there");
    int[][] places = {{-1, 0, 1}, {0, -1, 1}, {6, 0, 1}, {0, 4, 1}, {5, 0, 2}, {0, 3, 2}, {0, 0, 5}, {1, 0, 6}, {0, 0, 7},
        {3, 0, 4}, {7, 0, 0}, {0, 5, 0}, {-1, 0, 0}, {0, -1, 0}, {-1, -1, 2}};
    for (int[] p : places) {
      Due.is("shift(0, " + p[0] + ", 5, " + p[1] + ", " + p[2] + ")", x.shift(0, p[0], 5, p[1], p[2]), Due.NO_PLACE);
    }
    Due.promise(31, "-13: less than none");
    for (int n : new int[] {-1, -2, -6, Due.MIN}) {
      Due.is("shift(0, 0, 5, 0, " + n + ")", x.shift(0, 0, 5, 0, n), Due.NO_PLACE);
      Due.is("shift(0, 6, 5, 4, " + n + ")", x.shift(0, 6, 5, 4, n), Due.NO_PLACE);
    }
    shows(x, 0, 10, 11, 12, 13, 14, 10);
    shows(x, 5, 12, 13, 14, 10);
    Due.promise(31, "of an empty ROW");
    x.row(1, 2, 0);
    Due.is("shift(1, 0, 0, 6, 0)", x.shift(1, 0, 0, 6, 0), 0);
    Due.is("shift(0, 0, 1, 0, 0)", x.shift(0, 0, 1, 0, 0), 0);
    Due.is("shift(1, 0, 0, 0, 1)", x.shift(1, 0, 0, 0, 1), Due.NO_PLACE);
    Due.is("shift(0, 0, 1, 0, 1)", x.shift(0, 0, 1, 0, 1), Due.NO_PLACE);
  }

  private static void shiftWraps() {
    SpeaksInTurn x = withRows();
    Due.promise(31, "-13: places and numbers whose sum wraps");
    int[] far = {Due.MAX, Due.MAX - 1, Due.MAX - 5, Due.MIN, Due.MIN + 1, Due.MIN + 6};
    for (int a : far) {
      Due.is("from " + a + " on", x.shift(0, a, 5, 0, 1), Due.NO_PLACE);
      Due.is("to " + a, x.shift(0, 0, 5, a, 1), Due.NO_PLACE);
      Due.is("as many as " + a, x.shift(0, 1, 5, 1, a), Due.NO_PLACE);
      for (int b : far) {
        Due.is("from " + a + " on, as many as " + b, x.shift(0, a, 5, 0, b), Due.NO_PLACE);
        Due.is("to " + a + ", as many as " + b, x.shift(0, 0, 5, a, b), Due.NO_PLACE);
      }
    }
    shows(x, 0, 10, 11, 12, 13, 14, 15);
    shows(x, 5, 0, 0, 0, 0);
  }

  private static void shiftOverItself() {
    Due.promise(31, "as they all were before: to the same one");
    SpeaksInTurn x = withRows();
    Due.is("up by one", x.shift(0, 0, 0, 1, 5), 5);
    shows(x, 0, 10, 10, 11, 12, 13, 14);
    Due.is("down by one", x.shift(0, 1, 0, 0, 5), 5);
    shows(x, 0, 10, 11, 12, 13, 14, 14);
    Due.is("up by two", x.shift(0, 0, 0, 2, 4), 4);
    shows(x, 0, 10, 11, 10, 11, 12, 13);
    Due.is("onto itself", x.shift(0, 0, 0, 0, 6), 6);
    shows(x, 0, 10, 11, 10, 11, 12, 13);
    Due.is("no place", x.shift(0, 0, 0, 1, 6), Due.NO_PLACE);
    Due.is("no place", x.shift(0, 1, 0, 0, 6), Due.NO_PLACE);
    shows(x, 0, 10, 11, 10, 11, 12, 13);
    Due.promise(31, "a full ROW of each sort");
    for (int sort = 0; sort < 5; sort++) {
      x.row(2, sort, 60);
      x.row(3, sort, 60);
      x.put(2, 0, 1);
      x.put(2, 59, 1);
      Due.is("shift(2, 0, 3, 0, 60)", x.shift(2, 0, 3, 0, 60), 60);
      Due.is("the first", x.element(3, 0), 1);
      Due.is("the last", x.element(3, 59), 1);
      Due.is("between", x.element(3, 1) + x.element(3, 58), 0);
    }
  }

  // ---- promises 32 and 33

  private static void taken() {
    SpeaksInTurn x = new SpeaksInTurn();
    x.body(3);
    x.keep(0, 0);
    x.row(1, 0, 60);
    IntToLongFunction kinds = k -> x.taken(0, k);
    Due.promise(32, "KIND k (0 .. 7)");
    Due.refused("taken(0, v)", kinds, Due.BAD, -1, 8);
    Due.promise(32, "BAD: a SHELF 0 .. 5");
    Due.refused("taken(v, 0)", v -> x.taken(v, 0), Due.BAD, -1, 6);
    Due.promise(32, "or under it: its own KIND, each above, no other");
    Due.row("taken(0, v)", kinds, 3, -12, 3, 3, -12, -12, -12, -12);
    Due.promise(32, "-11: nothing is there");
    for (int k = 0; k < 8; k++) {
      Due.is("taken(5, " + k + ")", x.taken(5, k), Due.NOTHING_THERE);
    }
    Due.promise(32, "-12: a ROW");
    for (int k = 0; k < 8; k++) {
      Due.is("taken(1, " + k + ")", x.taken(1, k), Due.OTHER_KIND);
    }
    Due.promise(32, "of several answers BAD ahead of -11 and -12");
    Due.refused("taken(5, v)", v -> x.taken(5, v), Due.BAD, -1, 8);
    Due.refused("taken(1, v)", v -> x.taken(1, v), Due.BAD, -1, 8);
    Due.promise(32, "a SAYING of KIND 0 is answered with 0");
    x.body(0);
    x.keep(2, 1);
    Due.row("taken(2, v)", k -> x.taken(2, k), 0, -12, -12, -12, -12, -12, -12, -12);
  }

  private static void count() {
    SpeaksInTurn x = new SpeaksInTurn();
    Due.promise(33, "BAD: what 0 .. 6");
    Due.refused("count", x::count, Due.BAD, -1, 7);
    Due.promise(33, "how many: none");
    Due.row("count", x::count, 0, 0, 0, 0, 0, 0, 0);
    Due.promise(33, "how many: one");
    x.person(0, 0);
    x.thing(0, 0);
    x.card(0, 0, 0);
    x.feed('1');
    x.mend(0, 0, 1);
    x.body(0);
    x.act(0, 0, 0);
    Due.row("count", x::count, 1, 1, 1, 1, 1, 1, 1);
    Due.promise(33, "how many: what was refused is not counted");
    x.person(100, 0);
    x.thing(100, 0);
    x.card(1, 0, 0);
    x.feed(256);
    x.mend(0, 0, 10);
    x.body(8);
    Due.row("count", x::count, 1, 1, 1, 1, 1, 1, 1);
    Due.promise(33, "how many: none again");
    x.law();
    x.undo();
    x.act(1, 0, 0);
    Due.row("count", x::count, 1, 1, 1, 0, 0, 1, 0);
  }

  private static void countFull() {
    SpeaksInTurn x = new SpeaksInTurn();
    for (int i = 0; i <= 10; i++) {
      x.person(0, 0);
    }
    for (int i = 0; i <= 6; i++) {
      x.thing(0, 0);
    }
    for (int i = 0; i <= 20; i++) {
      x.card(0, 0, 0);
    }
    for (int i = 0; i <= 120; i++) {
      x.feed('1');
    }
    for (int i = 0; i <= 40; i++) {
      x.mend(0, 2, 1 + i);
    }
    for (int i = 0; i <= 50; i++) {
      x.body(7);
    }
    x.act(49, 3, 0);
    Due.promise(33, "how many: full of each");
    Due.row("count", x::count, 10, 6, 20, 120, 40, 50, 11);
  }
}
