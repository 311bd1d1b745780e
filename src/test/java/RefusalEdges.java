import java.util.Arrays;
import java.util.function.ToLongFunction;

/**
 * What is answered with a refusal changes nothing: promises 2 to 33. Of two objects made by the same calls one is
 * refused something; then both are asked for all that can be seen, part by part on objects of their own, since an
 * object is used for 512 calls at most.
 */
final class RefusalEdges {
  private static final int PARTS = 7;
  private static boolean full;
  private static long[][] asItWas;

  private RefusalEdges() { }

  static void run() {
    begin(false);
    refusedOnTable();
    refusedOfMeeting();
    refusedInThought();
    refusedOnShelves();
    toldOnly();
    begin(true);
    refusedWhenFull();
    withoutAny();
  }

  private static void begin(boolean whenFull) {
    full = whenFull;
    asItWas = new long[PARTS][];
    for (int part = 0; part < PARTS; part++) {
      asItWas[part] = seen(made(), part);
    }
  }

  private static SpeaksInTurn made() {
    return full ? fullOne() : smallOne();
  }

  /** In the midst of all: a meeting was held, a change is undone, the tape has bytes, the shelves hold each sort. */
  private static SpeaksInTurn smallOne() {
    SpeaksInTurn x = new SpeaksInTurn();
    x.person(23, 1501);
    x.person(58, 2500);
    x.person(91, 3502);
    x.thing(2, 3);
    x.thing(-1, 4);
    x.card(0, -3, 1);
    x.card(0, 2, 6);
    x.card(1, 4, 5);
    x.card(1, -2, 3);
    feed(x, "n*3+e-s*2-p");
    x.law();
    x.set(0, 1);
    x.set(1, 1);
    x.set(2, 4);
    x.mend(0, 0, 3);
    x.mend(1, 4, 5);
    x.mend(2, 2, 1);
    x.undo();
    x.meet(21);
    feed(x, "3-");
    x.body(0);
    x.body(5);
    x.act(1, 3, 9);
    x.row(0, 0, 2);
    x.put(0, 0, 1);
    x.row(1, 1, 3);
    x.put(1, 1, -5);
    x.row(2, 2, 4);
    x.put(2, 3, 77);
    x.keep(3, 1);
    x.row(5, 2, 3);
    x.put(5, 0, -9);
    return x;
  }

  /** Full of people, things, cards, bytes, changes, bodies. */
  private static SpeaksInTurn fullOne() {
    SpeaksInTurn x = new SpeaksInTurn();
    for (int p = 0; p < 10; p++) {
      x.person(11 * p, 100 * p);
    }
    for (int t = 0; t < 6; t++) {
      x.thing(t - 3, t);
    }
    for (int c = 0; c < 20; c++) {
      x.card(c % 6, c - 9 < 9 ? c - 9 : 0, 1 << c % 10);
    }
    feed(x, "n");
    x.law();
    x.meet(0);
    for (int i = 0; i < 40; i++) {
      x.mend(9, 2, 1 + i);
    }
    for (int i = 0; i < 60; i++) {
      feed(x, i == 0 ? "4*" : i < 59 ? "1*" : "17");
    }
    for (int b = 0; b < 50; b++) {
      x.body(b % 8);
    }
    x.act(47, 3, 1);
    x.row(1, 1, 3);
    return x;
  }

  private static void feed(SpeaksInTurn x, String text) {
    for (int i = 0; i < text.length(); i++) {
      x.feed(text.charAt(i));
    }
  }

  // ---- what can be seen

  private static final class Sums {
    private long[] got = new long[64];
    private int size;

    void add(long answer) {
      if (size == got.length) {
        got = Arrays.copyOf(got, 2 * size);
      }
      got[size++] = answer;
    }

    long[] all() {
      return Arrays.copyOf(got, size);
    }
  }

  private static long[] seen(SpeaksInTurn x, int part) {
    Sums sums = new Sums();
    switch (part) {
      case 0: seeMeeting(x, sums); break;
      case 1: seeTable(x, sums); break;
      case 2: seeSettingsAndTape(x, sums); break;
      case 3: seeChanges(x, sums); break;
      case 4: seeThoughts(x, sums); break;
      case 5: seeTrace(x, sums); break;
      default: seeShelves(x, sums); break;
    }
    return sums.all();
  }

  private static void seeMeeting(SpeaksInTurn x, Sums sums) {
    for (int what = 0; what < 10; what++) {
      sums.add(x.told(what));
    }
    for (int i = 0; i <= 12; i++) {
      for (int what = 0; what < 7; what++) {
        sums.add(x.saying(i, what));
      }
    }
    for (int n = 0; n < (full ? 10 : 4); n++) {
      for (int what = 0; what < 4; what++) {
        sums.add(x.did(n, what));
        sums.add(what < 2 ? x.took(n, what) : x.first(n, what - 2));
      }
    }
  }

  private static void seeTable(SpeaksInTurn x, Sums sums) {
    int[] whats = {0, 1, 2, 3, 10, 11, 20, 21, 22};
    for (int what : whats) {
      int most = full ? what < 10 ? 10 : what < 20 ? 6 : 20 : 5;
      for (int n = 0; n < most; n++) {
        sums.add(x.of(n, what));
      }
    }
    for (int what = 0; what < 7; what++) {
      sums.add(x.count(what));
    }
    for (int p = 0; p < 4; p++) {
      sums.add(x.wish(p, 0));
      sums.add(x.wish(p, 1));
    }
  }

  private static void seeSettingsAndTape(SpeaksInTurn x, Sums sums) {
    sums.add(x.set(0, 0));
    sums.add(x.set(1, 0));
    sums.add(x.set(2, 1));
    sums.add(x.wish(0, 0));
    sums.add(x.feed('8'));
    sums.add(x.law());
    sums.add(x.wish(0, 0));
  }

  private static void seeChanges(SpeaksInTurn x, Sums sums) {
    sums.add(x.redo());
    sums.add(x.of(2, 3));
    sums.add(x.redo());
    for (int i = 0; i < (full ? 41 : 4); i++) {
      sums.add(x.undo());
      sums.add(x.of(full ? 9 : 0, full ? 3 : 0));
      sums.add(x.of(1, 11));
    }
  }

  private static void seeThoughts(SpeaksInTurn x, Sums sums) {
    for (int what = 0; what < 3; what++) {
      sums.add(x.rule(what));
      sums.add(x.order(what));
      sums.add(x.times(what));
    }
    sums.add(x.film(0));
    sums.add(x.meet(0));
    for (int what = 0; what < 10; what++) {
      sums.add(x.told(what));
    }
  }

  private static void seeTrace(SpeaksInTurn x, Sums sums) {
    sums.add(x.count(6));
    for (int i = 0; i < 12; i++) {
      sums.add(x.trace(i));
    }
  }

  private static void seeShelves(SpeaksInTurn x, Sums sums) {
    for (int s = 0; s < 6; s++) {
      sums.add(x.taken(s, 0));
      sums.add(x.taken(s, 2));
      for (int i = 0; i < 6; i++) {
        sums.add(x.element(s, i));
        sums.add(x.put(s, i, 1000 + i));
        sums.add(x.element(s, i));
      }
    }
    for (int b = 0; b < 4; b++) {
      sums.add(x.act(b, 3, 5));
    }
    sums.add(x.count(5));
  }

  // ---- what is refused

  private static void changesNothing(String call, ToLongFunction<SpeaksInTurn> asks, long refusal) {
    for (int part = 0; part < PARTS; part++) {
      SpeaksInTurn x = made();
      Due.is(call, asks.applyAsLong(x), refusal);
      Due.holds(call + " changed part " + part, Arrays.equals(seen(x, part), asItWas[part]));
    }
  }

  private static void says(int promise) {
    Due.promise(promise, "what is answered so changes nothing" + (full ? ", when all is full" : ""));
  }

  private static void refusedOnTable() {
    says(2);
    changesNothing("person(100, 0)", x -> x.person(100, 0), Due.BAD);
    changesNothing("person(-1, 0)", x -> x.person(-1, 0), Due.BAD);
    changesNothing("person(0, 10000)", x -> x.person(0, 10000), Due.BAD);
    changesNothing("person(0, -1)", x -> x.person(0, -1), Due.BAD);
    says(3);
    changesNothing("thing(100, 0)", x -> x.thing(100, 0), Due.BAD);
    changesNothing("thing(0, 10)", x -> x.thing(0, 10), Due.BAD);
    says(4);
    changesNothing("card(2, 0, 0)", x -> x.card(2, 0, 0), Due.BAD);
    changesNothing("card(0, 10, 0)", x -> x.card(0, 10, 0), Due.BAD);
    changesNothing("card(0, 0, 1024)", x -> x.card(0, 0, 1024), Due.BAD);
    says(5);
    changesNothing("cards(6, 0, 1)", x -> x.cards(6, 0, 1), Due.BAD);
    changesNothing("cards(1, 0, 21)", x -> x.cards(1, 0, 21), Due.BAD);
    changesNothing("cards(2, 0, 1) of ints", x -> x.cards(2, 0, 1), Due.OTHER_KIND);
    changesNothing("cards(3, 0, 1) of a SAYING", x -> x.cards(3, 0, 1), Due.OTHER_KIND);
    changesNothing("cards(4, 0, 1) of nothing", x -> x.cards(4, 0, 1), 0);
    changesNothing("cards(1, 1, 1) that ends", x -> x.cards(1, 1, 1), 0);
    says(6);
    changesNothing("feed(256)", x -> x.feed(256), Due.BAD);
    changesNothing("feed(-1)", x -> x.feed(-1), Due.BAD);
    says(8);
    changesNothing("set(0, 6)", x -> x.set(0, 6), Due.BAD);
    changesNothing("set(1, 2)", x -> x.set(1, 2), Due.BAD);
    changesNothing("set(2, 0)", x -> x.set(2, 0), Due.BAD);
    changesNothing("set(2, 10)", x -> x.set(2, 10), Due.BAD);
    changesNothing("set(3, 1)", x -> x.set(3, 1), Due.BAD);
    says(9);
    changesNothing("mend(0, 0, 10)", x -> x.mend(0, 0, 10), Due.VOID);
    changesNothing("mend(0, 2, 100)", x -> x.mend(0, 2, 100), Due.VOID);
    changesNothing("mend(3, 0, 1)", x -> x.mend(3, 0, 1), Due.VOID);
    changesNothing("mend(2, 3, 1)", x -> x.mend(2, 3, 1), Due.VOID);
    changesNothing("mend(0, 3, 100)", x -> x.mend(0, 3, 100), Due.VOID);
    changesNothing("mend(0, 5, 1)", x -> x.mend(0, 5, 1), Due.VOID);
    changesNothing("mend(0, 0, 3), the same number", x -> x.mend(0, 0, 3), 3);
    says(10);
    changesNothing("of(3, 0)", x -> x.of(3, 0), Due.VOID);
    changesNothing("of(0, 4)", x -> x.of(0, 4), Due.VOID);
  }

  private static void refusedOfMeeting() {
    says(11);
    changesNothing("meet(11)", x -> x.meet(11), Due.BAD);
    changesNothing("meet(1)", x -> x.meet(1), Due.BAD);
    changesNothing("meet(13)", x -> x.meet(13), Due.BAD);
    changesNothing("meet(120)", x -> x.meet(120), Due.BAD);
    changesNothing("meet(-12)", x -> x.meet(-12), Due.BAD);
    says(12);
    changesNothing("told(10)", x -> x.told(10), Due.BAD);
    says(13);
    changesNothing("saying(0, 7)", x -> x.saying(0, 7), Due.BAD);
    changesNothing("saying(200, 0)", x -> x.saying(200, 0), Due.BAD);
    says(14);
    changesNothing("took(2, 0)", x -> x.took(2, 0), Due.VOID);
    says(15);
    changesNothing("did(3, 0)", x -> x.did(3, 0), Due.BAD);
    says(16);
    changesNothing("first(4, 0)", x -> x.first(4, 0), Due.VOID);
  }

  private static void refusedInThought() {
    says(17);
    changesNothing("rule(3)", x -> x.rule(3), Due.BAD);
    says(18);
    changesNothing("order(-1)", x -> x.order(-1), Due.BAD);
    says(19);
    changesNothing("times(3)", x -> x.times(3), Due.BAD);
    says(20);
    changesNothing("film(-1)", x -> x.film(-1), Due.BAD);
    changesNothing("film(4)", x -> x.film(4), Due.NOTHING_THERE);
    changesNothing("film(3)", x -> x.film(3), Due.OTHER_KIND);
    changesNothing("film(1)", x -> x.film(1), Due.OTHER_KIND);
    says(21);
    changesNothing("wish(3, 0)", x -> x.wish(3, 0), Due.VOID);
    changesNothing("wish(0, 2)", x -> x.wish(0, 2), Due.VOID);
  }

  private static void refusedOnShelves() {
    says(24);
    changesNothing("body(8)", x -> x.body(8), Due.BAD);
    says(26);
    changesNothing("trace(24)", x -> x.trace(24), Due.BAD);
    says(27);
    changesNothing("keep(0, 2)", x -> x.keep(0, 2), Due.BAD);
    changesNothing("keep(0, -2)", x -> x.keep(0, -2), Due.BAD);
    changesNothing("keep(6, -1)", x -> x.keep(6, -1), Due.BAD);
    says(28);
    changesNothing("row(0, 0, 61)", x -> x.row(0, 0, 61), Due.BAD);
    changesNothing("row(0, 5, 1)", x -> x.row(0, 5, 1), Due.BAD);
    changesNothing("row(0, 0, -1)", x -> x.row(0, 0, -1), Due.BELOW_ZERO);
    changesNothing("row(3, 0, -1)", x -> x.row(3, 0, -1), Due.BELOW_ZERO);
    changesNothing("row(4, 0, -1)", x -> x.row(4, 0, -1), Due.BELOW_ZERO);
    says(29);
    changesNothing("put(0, 2, 5)", x -> x.put(0, 2, 5), Due.NO_PLACE);
    changesNothing("put(0, -1, 5)", x -> x.put(0, -1, 5), Due.NO_PLACE);
    changesNothing("put(3, 0, 5)", x -> x.put(3, 0, 5), Due.OTHER_KIND);
    changesNothing("put(4, 0, 5)", x -> x.put(4, 0, 5), Due.NOTHING_THERE);
    says(30);
    changesNothing("element(0, 2)", x -> x.element(0, 2), Long.MIN_VALUE);
    says(31);
    changesNothing("shift(2, 3, 5, 2, 2)", x -> x.shift(2, 3, 5, 2, 2), Due.NO_PLACE);
    changesNothing("shift(2, 0, 5, 2, 2)", x -> x.shift(2, 0, 5, 2, 2), Due.NO_PLACE);
    changesNothing("shift(2, 3, 5, 0, 2)", x -> x.shift(2, 3, 5, 0, 2), Due.NO_PLACE);
    changesNothing("shift(2, 3, 1, 0, 1)", x -> x.shift(2, 3, 1, 0, 1), Due.OTHER_KIND);
    changesNothing("shift(2, 0, 4, 0, 1)", x -> x.shift(2, 0, 4, 0, 1), Due.NOTHING_THERE);
    changesNothing("shift(2, 3, 5, 0, 0), of none", x -> x.shift(2, 3, 5, 0, 0), 0);
    says(32);
    changesNothing("taken(3, 8)", x -> x.taken(3, 8), Due.BAD);
    changesNothing("taken(3, 1)", x -> x.taken(3, 1), Due.OTHER_KIND);
    changesNothing("taken(4, 0)", x -> x.taken(4, 0), Due.NOTHING_THERE);
    says(33);
    changesNothing("count(7)", x -> x.count(7), Due.BAD);
  }

  /** An act of no SAYING takes THE TRACE away, and a text at fault takes what is on the tape: nothing else goes. */
  private static void toldOnly() {
    Due.promise(25, "no such SAYING, ACT: no TRACE, and nothing else changes");
    for (int part : new int[] {0, 2, 3, 4, 6}) {
      SpeaksInTurn x = made();
      Due.is("act(2, 0, 0)", x.act(2, 0, 0), 0);
      Due.holds("act(2, 0, 0) changed part " + part, Arrays.equals(seen(x, part), asItWas[part]));
      x = made();
      Due.is("act(0, 4, 0)", x.act(0, 4, 0), 0);
      Due.holds("act(0, 4, 0) changed part " + part, Arrays.equals(seen(x, part), asItWas[part]));
    }
    Due.promise(7, "a FAULT changes nothing but THE TAPE");
    for (int part : new int[] {0, 3, 4, 5, 6}) {
      SpeaksInTurn x = made();
      Due.is("law() of 3-", x.law(), -102);
      Due.holds("law() changed part " + part, Arrays.equals(seen(x, part), asItWas[part]));
    }
  }

  private static void refusedWhenFull() {
    says(2);
    changesNothing("person(0, 0)", x -> x.person(0, 0), Due.FULL);
    says(3);
    changesNothing("thing(0, 0)", x -> x.thing(0, 0), Due.FULL);
    says(4);
    changesNothing("card(0, 0, 0)", x -> x.card(0, 0, 0), Due.FULL);
    says(5);
    changesNothing("cards(1, 0, 1)", x -> x.cards(1, 0, 1), 0);
    says(6);
    changesNothing("feed('1')", x -> x.feed('1'), Due.FULL);
    says(18);
    changesNothing("order(0)", x -> x.order(0), Due.STATE);
    says(23);
    changesNothing("redo()", x -> x.redo(), Due.STATE);
    says(24);
    changesNothing("body(0)", x -> x.body(0), Due.FULL);
  }

  /** Of a table that lacks people, things or changes. */
  private static void withoutAny() {
    for (int things = 0; things < 2; things++) {
      SpeaksInTurn x = new SpeaksInTurn();
      if (things == 1) {
        x.thing(1, 1);
      } else {
        x.person(11, 0);
      }
      x.row(0, 0, 1);
      x.feed('7');
      Due.promise(11, "STATE changes nothing");
      Due.is("meet(0)", x.meet(0), Due.STATE);
      Due.is("told(0)", x.told(0), Due.STATE);
      Due.promise(22, "STATE changes nothing");
      Due.is("undo()", x.undo(), Due.STATE);
      Due.is("redo()", x.redo(), Due.STATE);
      Due.row("count", x::count, 1 - things, things, 0, 1, 0, 0, 0);
      Due.promise(20, "STATE changes nothing");
      Due.is("rule(0)", x.rule(0), Due.STATE);
      Due.is("film(0)", x.film(0), Due.STATE);
      Due.is("element(0, 0)", x.element(0, 0), 0);
      x.person(11, 0);
      x.thing(1, 1);
      Due.is("meet(0)", x.meet(0) >= 0 ? 1 : 0, 1);
      Due.is("film(0)", x.film(0), 63);
    }
  }
}
