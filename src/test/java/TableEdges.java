import java.util.function.IntToLongFunction;

/** The boundary cases of promises 1 to 6 and 8 to 10: the table. */
final class TableEdges {
  private TableEdges() { }

  static void run() {
    emptyTable();
    emptyMeeting();
    apart();
    person();
    thing();
    card();
    cardsRefused();
    cardsCome();
    cardsEnd();
    cardsNotSo();
    cardsFull();
    feed();
    set();
    mend();
    mendRefused();
    ofPerson();
    ofThing();
    ofCard();
  }

  // ---- promise 1

  private static void emptyTable() {
    SpeaksInTurn x = new SpeaksInTurn();
    Due.promise(1, "an empty table: no people, things, cards, bytes, changes, bodies, none that ran");
    for (int what = 0; what <= 6; what++) {
      Due.is("count(" + what + ")", x.count(what), 0);
    }
    for (int what : new int[] {0, 1, 2, 3, 10, 11, 20, 21, 22}) {
      Due.is("of(0, " + what + ")", x.of(0, what), Due.VOID);
    }
    Due.promise(1, "no trace, nothing to undo or to do again");
    Due.is("trace(0)", x.trace(0), Due.BAD);
    Due.is("undo()", x.undo(), Due.STATE);
    Due.is("redo()", x.redo(), Due.STATE);
    Due.promise(1, "shelves 0 .. 5 hold nothing at first");
    for (int s = 0; s < 6; s++) {
      Due.is("taken of shelf " + s, x.taken(s, 0), Due.NOTHING_THERE);
      Due.is("put on shelf " + s, x.put(s, 0, 1), Due.NOTHING_THERE);
      Due.is("element of shelf " + s, x.element(s, 0), Long.MIN_VALUE);
    }
    Due.promise(1, "rule 0, standing 0, timer 3 at first");
    Due.is("set(0, 0)", x.set(0, 0), 0);
    Due.is("set(1, 0)", x.set(1, 0), 0);
    Due.is("set(2, 3)", x.set(2, 3), 3);
    Due.promise(1, "the tape is empty");
    Due.is("law()", x.law(), -100);
    Due.promise(1, "no law at first: 10 n and e and v, less 5 s");
    x.person(4, 0);
    x.thing(0, 3);
    Due.is("wish(0, 0)", x.wish(0, 0), 7);
  }

  private static void emptyMeeting() {
    SpeaksInTurn x = new SpeaksInTurn();
    Due.promise(1, "no meeting is there");
    for (int what = 0; what <= 9; what++) {
      Due.is("told(" + what + ")", x.told(what), Due.STATE);
    }
    Due.is("saying(0, 0)", x.saying(0, 0), Due.STATE);
    Due.is("did(0, 0)", x.did(0, 0), Due.STATE);
    Due.is("took(0, 0)", x.took(0, 0), Due.VOID);
    Due.is("first(0, 0)", x.first(0, 0), Due.VOID);
    Due.promise(1, "and none can be held");
    Due.is("meet(0)", x.meet(0), Due.STATE);
    Due.is("rule(0)", x.rule(0), Due.STATE);
    Due.is("order(0)", x.order(0), Due.STATE);
    Due.is("times(0)", x.times(0), Due.STATE);
    Due.is("wish(0, 0)", x.wish(0, 0), Due.VOID);
  }

  private static void apart() {
    Due.promise(1, "an empty table, whatever another one holds");
    SpeaksInTurn ahead = new SpeaksInTurn();
    SpeaksInTurn x = new SpeaksInTurn();
    x.person(11, 0);
    x.thing(1, 1);
    x.card(0, 1, 1);
    x.mend(0, 0, 2);
    Due.law(x, "1-s");
    x.feed('r');
    x.set(0, 5);
    x.meet(0);
    x.body(7);
    x.act(0, 3, 1);
    x.row(0, 0, 1);
    SpeaksInTurn behind = new SpeaksInTurn();
    for (SpeaksInTurn other : new SpeaksInTurn[] {ahead, behind}) {
      for (int what = 0; what <= 6; what++) {
        Due.is("count(" + what + ") of another one", other.count(what), 0);
      }
      Due.is("told(0) of another one", other.told(0), Due.STATE);
      Due.is("set(0, 0) of another one", other.set(0, 0), 0);
      Due.is("put of another one", other.put(0, 0, 1), Due.NOTHING_THERE);
      other.person(4, 0);
      other.thing(0, 3);
      Due.is("wish of another one", other.wish(0, 0), 7);
    }
  }

  // ---- promises 2 to 4

  private static void person() {
    SpeaksInTurn x = new SpeaksInTurn();
    Due.promise(2, "rv: 10 RANK and VOICE, 0 .. 99");
    Due.refused("person(v, 0)", v -> x.person(v, 0), Due.BAD, -1, 100);
    Due.is("count(0)", x.count(0), 0);
    int[][] rv = {{0, 0, 0}, {9, 0, 9}, {10, 1, 0}, {90, 9, 0}, {99, 9, 9}};
    for (int i = 0; i < 5; i++) {
      Due.is("person(" + rv[i][0] + ", 0)", x.person(rv[i][0], 0), i);
      Due.is("RANK", x.of(i, 0), rv[i][1]);
      Due.is("VOICE", x.of(i, 1), rv[i][2]);
    }
    Due.promise(2, "wl: 100 WAGE and LATE, 0 .. 9999");
    Due.refused("person(0, v)", v -> x.person(0, v), Due.BAD, -1, 10000);
    Due.is("count(0)", x.count(0), 5);
    int[][] wl = {{0, 0, 0}, {99, 0, 99}, {100, 1, 0}, {9900, 99, 0}, {9999, 99, 99}};
    for (int i = 0; i < 5; i++) {
      Due.is("person(0, " + wl[i][0] + ")", x.person(0, wl[i][0]), 5 + i);
      Due.is("WAGE", x.of(5 + i, 2), wl[i][1]);
      Due.is("LATE", x.of(5 + i, 3), wl[i][2]);
    }
    Due.promise(2, "FULL: 10");
    Due.is("count(0)", x.count(0), 10);
    Due.is("the eleventh", x.person(0, 0), Due.FULL);
    Due.is("and again", x.person(99, 9999), Due.FULL);
    Due.is("count(0)", x.count(0), 10);
    Due.is("the tenth stays", x.of(9, 2), 99);
    Due.promise(2, "of several answers BAD ahead of FULL");
    Due.refused("person(v, 0)", v -> x.person(v, 0), Due.BAD, -1, 100);
    Due.refused("person(0, v)", v -> x.person(0, v), Due.BAD, -1, 10000);
  }

  private static void thing() {
    SpeaksInTurn x = new SpeaksInTurn();
    Due.promise(3, "WORTH -99 .. 99");
    Due.refused("thing(v, 0)", v -> x.thing(v, 0), Due.BAD, -100, 100);
    Due.is("count(1)", x.count(1), 0);
    int[] worth = {-99, 99, -1};
    for (int i = 0; i < 3; i++) {
      Due.is("thing(" + worth[i] + ", 0)", x.thing(worth[i], 0), i);
      Due.is("WORTH", x.of(i, 10), worth[i]);
    }
    Due.promise(3, "EASY 0 .. 9");
    Due.refused("thing(0, v)", v -> x.thing(0, v), Due.BAD, -1, 10);
    Due.is("count(1)", x.count(1), 3);
    int[] easy = {0, 9, 1};
    for (int i = 0; i < 3; i++) {
      Due.is("thing(0, " + easy[i] + ")", x.thing(0, easy[i]), 3 + i);
      Due.is("EASY", x.of(3 + i, 11), easy[i]);
    }
    Due.promise(3, "FULL: 6");
    Due.is("count(1)", x.count(1), 6);
    Due.is("the seventh", x.thing(0, 0), Due.FULL);
    Due.is("and again", x.thing(99, 9), Due.FULL);
    Due.is("count(1)", x.count(1), 6);
    Due.is("the sixth stays", x.of(5, 11), 1);
    Due.promise(3, "of several answers BAD ahead of FULL");
    Due.refused("thing(v, 0)", v -> x.thing(v, 0), Due.BAD, -100, 100);
    Due.refused("thing(0, v)", v -> x.thing(0, v), Due.BAD, -1, 10);
  }

  private static void card() {
    SpeaksInTurn x = new SpeaksInTurn();
    Due.promise(4, "of a THING that there is");
    Due.refused("card(v, 0, 0) without things", v -> x.card(v, 0, 0), Due.BAD, -1, 0);
    x.thing(0, 0);
    x.thing(0, 0);
    Due.refused("card(v, 0, 0) with two things", v -> x.card(v, 0, 0), Due.BAD, -1, 2, 5);
    Due.is("card(0, 0, 0)", x.card(0, 0, 0), 0);
    Due.is("card(1, 0, 0)", x.card(1, 0, 0), 1);
    Due.is("of the last thing", x.of(1, 20), 1);
    Due.promise(4, "it counts -9 .. 9");
    Due.refused("card(0, v, 0)", v -> x.card(0, v, 0), Due.BAD, -10, 10);
    Due.is("card(0, -9, 0)", x.card(0, -9, 0), 2);
    Due.is("card(0, 9, 0)", x.card(0, 9, 0), 3);
    Due.is("counts", x.of(2, 21), -9);
    Due.is("counts", x.of(3, 21), 9);
    Due.promise(4, "bits 0 .. 1023, whether there are such PEOPLE or not");
    Due.refused("card(0, 0, v)", v -> x.card(0, 0, v), Due.BAD, -1, 1024);
    Due.is("card(0, 0, 1023)", x.card(0, 0, 1023), 4);
    Due.is("card(0, 0, 512)", x.card(0, 0, 512), 5);
    Due.is("no PEOPLE", x.count(0), 0);
    Due.is("all of them", x.of(4, 22), 1023);
    Due.is("the last of them", x.of(5, 22), 512);
    Due.is("none of them", x.of(0, 22), 0);
    Due.promise(4, "FULL: 20");
    Due.is("six came", x.count(2), 6);
    for (int i = 6; i < 20; i++) {
      Due.is("card(0, 0, " + i + ")", x.card(0, 0, i), i);
    }
    Due.is("the next", x.card(0, 0, 0), Due.FULL);
    Due.is("and again", x.card(1, 9, 1023), Due.FULL);
    Due.is("count(2)", x.count(2), 20);
    Due.is("the last stays", x.of(19, 22), 19);
    Due.promise(4, "of several answers BAD ahead of FULL");
    Due.refused("card(v, 0, 0)", v -> x.card(v, 0, 0), Due.BAD, -1, 2);
    Due.refused("card(0, v, 0)", v -> x.card(0, v, 0), Due.BAD, -10, 10);
    Due.refused("card(0, 0, v)", v -> x.card(0, 0, v), Due.BAD, -1, 1024);
    SpeaksInTurn y = new SpeaksInTurn();
    for (int t = 0; t < 6; t++) {
      y.thing(0, 0);
    }
    Due.promise(4, "of a THING that there is: the last of six");
    Due.is("card(6, 0, 0)", y.card(6, 0, 0), Due.BAD);
    Due.is("card(5, 0, 0)", y.card(5, 0, 0), 0);
    Due.is("of it", y.of(0, 20), 5);
  }

  // ---- promise 5

  private static SpeaksInTurn withThing() {
    SpeaksInTurn x = new SpeaksInTurn();
    x.thing(0, 0);
    return x;
  }

  private static void shorts(SpeaksInTurn x, int shelf, long... values) {
    x.row(shelf, 1, values.length);
    for (int i = 0; i < values.length; i++) {
      x.put(shelf, i, values[i]);
    }
  }

  private static void cardsRefused() {
    SpeaksInTurn x = withThing();
    x.row(5, 1, 60);
    Due.promise(5, "on a SHELF 0 .. 5");
    Due.refused("cards(v, 0, 1)", v -> x.cards(v, 0, 1), Due.BAD, -1, 6);
    Due.is("cards(5, 0, 1)", x.cards(5, 0, 1), 1);
    x.row(0, 1, 60);
    Due.is("cards(0, 0, 1)", x.cards(0, 0, 1), 1);
    Due.promise(5, "n (1 .. 20) of them");
    Due.refused("cards(0, 0, v)", v -> x.cards(0, 0, v), Due.BAD, -1, 0, 21);
    Due.is("count(2)", x.count(2), 2);
    Due.is("cards(0, 57, 1)", x.cards(0, 57, 1), 1);
    SpeaksInTurn y = withThing();
    y.row(0, 1, 60);
    Due.is("cards(0, 0, 20)", y.cards(0, 0, 20), 20);
    Due.is("count(2)", y.count(2), 20);
    Due.promise(5, "a SHELF that holds nothing is missing");
    Due.is("cards(1, 0, 1)", x.cards(1, 0, 1), 0);
    x.keep(0, -1);
    Due.is("cards(0, 0, 20) of a shelf made empty", x.cards(0, 0, 20), 0);
    Due.promise(5, "-12: no ROW of shorts");
    x.body(0);
    x.keep(0, 0);
    Due.is("a SAYING", x.cards(0, 0, 1), Due.OTHER_KIND);
    for (int sort : new int[] {0, 2, 3, 4}) {
      x.row(0, sort, 60);
      Due.is("a ROW of sort " + sort, x.cards(0, 0, 1), Due.OTHER_KIND);
      x.row(0, sort, 0);
      Due.is("an empty ROW of sort " + sort, x.cards(0, 0, 1), Due.OTHER_KIND);
    }
    Due.is("count(2)", x.count(2), 3);
    Due.promise(5, "of several answers BAD ahead of -12");
    Due.is("n 0 of a row of booleans", x.cards(0, 0, 0), Due.BAD);
    Due.is("n 21 of a row of booleans", x.cards(0, 0, 21), Due.BAD);
    Due.is("n 0 of nothing", x.cards(1, 0, 0), Due.BAD);
  }

  private static void cardsCome() {
    SpeaksInTurn x = withThing();
    Due.promise(5, "by threes THING, what it counts, PEOPLE as bits: each at its limits");
    shorts(x, 0, 0, -9, 0, 0, 9, 1023);
    Due.is("cards(0, 0, 2)", x.cards(0, 0, 2), 2);
    long[] due = {0, -9, 0, 0, 9, 1023};
    for (int i = 0; i < 6; i++) {
      Due.is("of", x.of(i / 3, 20 + i % 3), due[i]);
    }
    Due.promise(5, "n of them: no more, though the row goes on");
    Due.is("cards(0, 0, 1)", x.cards(0, 0, 1), 1);
    Due.is("count(2)", x.count(2), 3);
    Due.promise(5, "what is put in keeps its lowest bits: so does a THING, what it counts, PEOPLE");
    shorts(x, 1, 65536, 65536 - 9, 65536 + 1023);
    Due.is("cards(1, 0, 1)", x.cards(1, 0, 1), 1);
    Due.is("counts", x.of(3, 21), -9);
    Due.is("people", x.of(3, 22), 1023);
    Due.promise(5, "from place i on");
    shorts(x, 2, 99, 0, 1, 2, 99);
    Due.is("cards(2, 1, 1)", x.cards(2, 1, 1), 1);
    Due.is("counts", x.of(4, 21), 1);
    Due.is("people", x.of(4, 22), 2);
  }

  private static void cardsEnd() {
    SpeaksInTurn x = withThing();
    Due.promise(5, "it ends where the row ends, within a three, too");
    int[] came = {0, 0, 0, 1, 1, 1, 2};
    for (int n = 0; n < came.length; n++) {
      x.row(0, 1, n);
      Due.is("of a row of " + n, x.cards(0, 0, 3), came[n]);
    }
    Due.is("count(2)", x.count(2), 5);
    Due.promise(5, "it ends where the row ends: a place near or behind its end");
    x.row(0, 1, 60);
    Due.is("cards(0, 57, 20)", x.cards(0, 57, 20), 1);
    for (int i : new int[] {58, 59, 60, 61, Due.MAX, Due.MAX - 1, Due.MAX - 2, Due.MAX - 3}) {
      Due.is("cards(0, " + i + ", 20)", x.cards(0, i, 20), 0);
    }
    Due.promise(5, "it ends where there is no place of the row: ahead of its begin");
    for (int i : new int[] {-1, -2, -3, -60, Due.MIN, Due.MIN + 1}) {
      Due.is("cards(0, " + i + ", 20)", x.cards(0, i, 20), 0);
    }
    Due.is("count(2)", x.count(2), 6);
  }

  private static void cardsNotSo() {
    Due.promise(5, "it ends where one is not so: those ahead came");
    int[][] notSo = {{-1, 0, 0}, {1, 0, 0}, {0, -10, 0}, {0, 10, 0}, {0, 0, -1}, {0, 0, 1024}};
    for (int[] b : notSo) {
      SpeaksInTurn x = withThing();
      shorts(x, 0, 0, 1, 1, b[0], b[1], b[2], 0, 2, 2);
      String row = b[0] + " " + b[1] + " " + b[2];
      Due.is("behind one " + row, x.cards(0, 0, 3), 1);
      Due.is("count(2)", x.count(2), 1);
      Due.is("from it on " + row, x.cards(0, 3, 2), 0);
      Due.is("count(2)", x.count(2), 1);
      Due.is("behind it " + row, x.cards(0, 6, 1), 1);
      Due.is("counts", x.of(1, 21), 2);
    }
    SpeaksInTurn x = new SpeaksInTurn();
    shorts(x, 0, 0, 1, 1);
    Due.is("without things", x.cards(0, 0, 1), 0);
  }

  private static void cardsFull() {
    SpeaksInTurn x = withThing();
    for (int i = 0; i < 18; i++) {
      x.card(0, 0, 0);
    }
    Due.promise(5, "it ends where CARDS are FULL: those ahead came");
    shorts(x, 0, 0, 1, 1, 0, 2, 2, 0, 3, 3);
    Due.is("two of three", x.cards(0, 0, 3), 2);
    Due.is("count(2)", x.count(2), 20);
    Due.is("the last one counts", x.of(19, 21), 2);
    Due.is("none then", x.cards(0, 0, 1), 0);
    Due.is("none of one not so", x.cards(0, 1, 1), 0);
    Due.is("count(2)", x.count(2), 20);
    Due.is("-12 then, too", refusedOfBytes(x), Due.OTHER_KIND);
    Due.is("BAD then, too", x.cards(0, 0, 21), Due.BAD);
  }

  private static int refusedOfBytes(SpeaksInTurn x) {
    x.row(1, 0, 3);
    return x.cards(1, 0, 1);
  }

  // ---- promise 6

  private static void feed() {
    SpeaksInTurn x = new SpeaksInTurn();
    Due.promise(6, "a byte (0 .. 255)");
    Due.refused("feed", x::feed, Due.BAD, -1, 256);
    Due.is("count(3)", x.count(3), 0);
    Due.is("feed(0)", x.feed(0), 1);
    Due.is("feed(255)", x.feed(255), 2);
    Due.promise(6, "FULL (120)");
    for (int i = 3; i <= 120; i++) {
      Due.is("feed('r')", x.feed('r'), i);
    }
    Due.is("the next", x.feed('r'), Due.FULL);
    Due.is("and again", x.feed(0), Due.FULL);
    Due.is("count(3)", x.count(3), 120);
    Due.promise(6, "of several answers BAD ahead of FULL");
    Due.refused("feed", x::feed, Due.BAD, -1, 256);
    Due.promise(6, "how many THE TAPE has: from 1 on behind law()");
    x.law();
    Due.is("feed('1')", x.feed('1'), 1);
    Due.is("feed('2')", x.feed('2'), 2);
    Due.promise(6, "a byte refused is not on THE TAPE");
    x.feed(256);
    x.feed(-1);
    Due.is("feed('3')", x.feed('3'), 3);
    Due.is("law()", x.law(), 1);
    x.person(0, 0);
    x.thing(0, 0);
    Due.is("wish(0, 0)", x.wish(0, 0), 123);
  }

  // ---- promises 8 to 10

  private static void set() {
    SpeaksInTurn x = new SpeaksInTurn();
    Due.promise(8, "what 0 .. 2");
    Due.refused("set(v, 1)", v -> x.set(v, 1), Due.BAD, -1, 3);
    limits(8, "RULES 0 .. 5", v -> x.set(0, v), 0, 0, 5);
    limits(8, "STANDING 0, 1", v -> x.set(1, v), 0, 0, 1);
    limits(8, "TIMER 1 .. 9", v -> x.set(2, v), 3, 1, 9);
    Due.promise(8, "each of the three is its own");
    Due.is("set(0, 1)", x.set(0, 1), 5);
    Due.is("set(1, 0)", x.set(1, 0), 1);
    Due.is("set(2, 2)", x.set(2, 2), 9);
    Due.promise(8, "what it was: the same number, too");
    Due.is("set(2, 2)", x.set(2, 2), 2);
    Due.is("set(2, 2)", x.set(2, 2), 2);
  }

  /** Refuses what is outside; else answers what it was, ends at the most. */
  private static void limits(int promise, String sentence, IntToLongFunction set, int was, int least, int most) {
    Due.promise(promise, sentence);
    Due.refused("outside", set, Due.BAD, least - 1, most + 1);
    Due.is("the most", set.applyAsLong(most), was);
    Due.is("the least", set.applyAsLong(least), most);
    Due.refused("outside", set, Due.BAD, least - 1, most + 1);
    Due.is("the most", set.applyAsLong(most), least);
  }

  private static void mend() {
    SpeaksInTurn x = new SpeaksInTurn();
    x.person(12, 345);
    x.person(67, 8901);
    x.thing(-5, 6);
    x.thing(7, 8);
    String[] sentences = {"RANK 0 .. 9", "VOICE 0 .. 9", "LATE 0 .. 99", "WORTH -99 .. 99", "EASY 0 .. 9"};
    int[] least = {0, 0, 0, -99, 0};
    int[] most = {9, 9, 99, 99, 9};
    int[][] was = {{1, 6}, {2, 7}, {45, 1}, {-5, 7}, {6, 8}};
    int[] told = {0, 1, 3, 10, 11};
    for (int w = 0; w < 5; w++) {
      int what = w;
      Due.promise(9, sentences[w]);
      for (int n = 0; n < 2; n++) {
        int number = n;
        Due.refused("mend(" + n + ", " + w + ", v)", v -> x.mend(number, what, v), Due.VOID, least[w] - 1, most[w] + 1);
        Due.is("as it was", x.of(n, told[w]), was[w][n]);
        Due.is("the most", x.mend(n, w, most[w]), was[w][n]);
        Due.is("of", x.of(n, told[w]), most[w]);
        Due.is("the least", x.mend(n, w, least[w]), most[w]);
        Due.is("of", x.of(n, told[w]), least[w]);
      }
    }
    Due.promise(9, "what is mended is not the WAGE");
    Due.is("of(0, 2)", x.of(0, 2), 3);
    Due.is("of(1, 2)", x.of(1, 2), 89);
  }

  private static void mendRefused() {
    SpeaksInTurn x = new SpeaksInTurn();
    Due.promise(9, "VOID: no such number on an empty table");
    for (int what = 0; what < 5; what++) {
      Due.is("mend(0, " + what + ", 0)", x.mend(0, what, 0), Due.VOID);
    }
    x.person(0, 0);
    x.person(0, 0);
    x.thing(0, 0);
    x.card(0, 0, 0);
    x.card(0, 0, 0);
    x.card(0, 0, 0);
    Due.promise(9, "VOID: no such PERSON");
    for (int w = 0; w < 3; w++) {
      int what = w;
      Due.refused("mend(v, " + w + ", 1)", v -> x.mend(v, what, 1), Due.VOID, -1, 2, 10);
      Due.is("the last one", x.mend(1, w, 1), 0);
    }
    Due.promise(9, "VOID: no such THING, though there is such a PERSON");
    for (int w = 3; w < 5; w++) {
      int what = w;
      Due.refused("mend(v, " + w + ", 1)", v -> x.mend(v, what, 1), Due.VOID, -1, 1, 6);
      Due.is("the last one", x.mend(0, w, 1), 0);
    }
    Due.promise(9, "VOID: no such what");
    Due.refused("mend(0, v, 0)", v -> x.mend(0, v, 0), Due.VOID, -1, 5);
    Due.promise(9, "what it was: a WORTH below 0 is no refusal");
    x.mend(0, 3, -1);
    Due.is("mend(0, 3, -2)", x.mend(0, 3, -2), -1);
    Due.is("mend(0, 3, 0)", x.mend(0, 3, 0), -2);
    Due.promise(9, "telling the same number is no change");
    int changes = x.count(4);
    Due.is("mend(1, 0, 1)", x.mend(1, 0, 1), 1);
    Due.is("mend(0, 4, 1)", x.mend(0, 4, 1), 1);
    Due.is("count(4)", x.count(4), changes);
  }

  private static void ofPerson() {
    SpeaksInTurn x = new SpeaksInTurn();
    x.thing(0, 0);
    x.thing(0, 0);
    x.person(98, 7654);
    Due.promise(10, "of a PERSON: 0 .. 3");
    Due.row("of(0, v)", v -> x.of(0, v), 9, 8, 76, 54);
    for (int w = 0; w < 4; w++) {
      int what = w;
      Due.refused("of(v, " + w + ")", v -> x.of(v, what), Due.VOID, -1, 1, 9);
    }
    Due.promise(10, "VOID: no such what, though there is a PERSON, a THING, a CARD");
    x.card(0, 0, 0);
    Due.refused("of(0, v)", v -> x.of(0, v), Due.VOID, -1, 4, 5, 9, 12, 13, 19, 23, 30);
  }

  private static void ofThing() {
    SpeaksInTurn x = new SpeaksInTurn();
    x.person(0, 0);
    x.person(0, 0);
    x.thing(-98, 7);
    Due.promise(10, "of a THING: 10, 11");
    Due.is("of(0, 10)", x.of(0, 10), -98);
    Due.is("of(0, 11)", x.of(0, 11), 7);
    Due.refused("of(v, 10)", v -> x.of(v, 10), Due.VOID, -1, 1, 5);
    Due.refused("of(v, 11)", v -> x.of(v, 11), Due.VOID, -1, 1, 5);
  }

  private static void ofCard() {
    SpeaksInTurn x = new SpeaksInTurn();
    x.thing(0, 0);
    x.thing(0, 0);
    x.card(1, -8, 765);
    Due.promise(10, "of a CARD: 20 .. 22");
    Due.is("of(0, 20)", x.of(0, 20), 1);
    Due.is("of(0, 21)", x.of(0, 21), -8);
    Due.is("of(0, 22)", x.of(0, 22), 765);
    for (int w = 20; w < 23; w++) {
      int what = w;
      Due.refused("of(v, " + w + ")", v -> x.of(v, what), Due.VOID, -1, 1, 19);
    }
  }
}
