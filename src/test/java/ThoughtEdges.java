import java.util.Arrays;
import java.util.function.IntToLongFunction;

/** The boundary cases of promises 17 to 20: in thought. */
final class ThoughtEdges {
  private ThoughtEdges() { }

  static void run() {
    refused(17, SpeaksInTurn::rule);
    refused(18, SpeaksInTurn::order);
    refused(19, SpeaksInTurn::times);
    ruleLikeOnes();
    ruleByWrongThenCost();
    ruleLast();
    fiveThingsAtMost();
    orderLikeOnes();
    orderLast();
    timerLikeOnes();
    timerLast();
    thingsAsTheyCame();
    leavesAllAsItWas();
    behindChanges();
    ruleAndTimerInForce();
    filmRefused();
    filmAsLongAsTheRow();
    filmOfOthers();
  }

  /** One of the questions, of an object. */
  private interface Asks {
    int of(SpeaksInTurn x, int what);
  }

  private static void refused(int promise, Asks asks) {
    SpeaksInTurn x = new SpeaksInTurn();
    IntToLongFunction asked = v -> asks.of(x, v);
    Due.promise(promise, "BAD: what 0 .. 2; of several answers ahead of STATE");
    Due.refused("what", asked, Due.BAD, -1, 3);
    Due.promise(promise, "STATE: no PEOPLE, no THINGS");
    Due.row("of neither, what", asked, Due.STATE, Due.STATE, Due.STATE);
    x.thing(0, 0);
    Due.row("no PEOPLE, what", asked, Due.STATE, Due.STATE, Due.STATE);
    SpeaksInTurn y = new SpeaksInTurn();
    y.person(0, 0);
    Due.row("no THINGS, what", v -> asks.of(y, v), Due.STATE, Due.STATE, Due.STATE);
    Due.refused("what", v -> asks.of(y, v), Due.BAD, -1, 3);
    x.person(0, 0);
    Due.promise(promise, "one PERSON and one THING are enough");
    Due.row("what", asked, promise == 17 ? 0 : 1, 0, 0);
    Due.refused("what", asked, Due.BAD, -1, 3);
  }

  private static SpeaksInTurn table(String law, int wage, int... worth) {
    SpeaksInTurn x = new SpeaksInTurn();
    x.person(0, 100 * wage);
    for (int t = 0; t < worth.length; t++) {
      x.thing(worth[t], t);
    }
    Due.is("law of " + law, Due.law(x, law), 1);
    return x;
  }

  // ---- promise 17

  private static void ruleLikeOnes() {
    Due.promise(17, "of like ones the first");
    SpeaksInTurn x = table("1-s", 1, 1);
    Due.row("rule", x::rule, 0, 0, 1);
    for (int rule = 5; rule > 0; rule--) {
      x.set(0, rule);
      Due.is("rule(0) whatever is in force", x.rule(0), 0);
    }
  }

  /** One knows what turns the thing: on paper it costs no more, by turns it costs a minute more. */
  private static void ruleByWrongThenCost() {
    SpeaksInTurn x = new SpeaksInTurn();
    x.person(0, 100);
    x.person(90, 5000);
    x.thing(1, 0);
    x.card(0, -1, 2);
    x.card(0, 0, 2);
    Due.law(x, "t>2?0;p?1-s;2");
    Due.promise(17, "fewest are WRONG, then COST least");
    Due.row("rule", x::rule, 5, 0, 3 * 51);
    Due.promise(17, "nothing is WRONG: COST least, then the first");
    x.mend(0, 3, 2);
    Due.row("rule", x::rule, 0, 0, 3 * 51);
    Due.promise(17, "fewest are WRONG though it costs more");
    x.mend(0, 3, 1);
    x.mend(1, 2, 1);
    Due.row("rule", x::rule, 1, 0, 4 + 3 * 50);
  }

  private static void ruleLast() {
    Due.promise(17, "of all: the last one, too");
    SpeaksInTurn x = table("0", 1, 1, 1);
    x.card(1, -1, 1);
    Due.row("rule", x::rule, 5, 0, 0);
    x.card(0, -1, 0);
    x.card(0, -1, 2);
    Due.row("rule with CARDS that nobody knows", x::rule, 5, 0, 0);
    x.person(0, 199);
    Due.row("rule with one WRONG by each", x::rule, 5, 1, 0);
  }

  // ---- promise 18

  private static void fiveThingsAtMost() {
    Due.promise(18, "5 THINGS at most (else STATE)");
    SpeaksInTurn x = new SpeaksInTurn();
    x.person(0, 0);
    int[] due = {1, 12, 123, 1234, 12345};
    for (int i = 0; i < 5; i++) {
      x.thing(0, 0);
      Due.row("order of " + (i + 1), x::order, due[i], 0, 0);
    }
    x.thing(0, 0);
    Due.row("order of 6", x::order, Due.STATE, Due.STATE, Due.STATE);
    Due.promise(18, "more than 5 THINGS: BAD ahead of STATE");
    Due.refused("order", x::order, Due.BAD, -1, 3);
    Due.promise(17, "6 THINGS are not too many");
    Due.is("rule(0)", x.rule(0), 0);
    Due.promise(19, "6 THINGS are not too many");
    Due.is("times(0)", x.times(0), 1);
    Due.promise(20, "6 THINGS are not too many");
    x.row(0, 0, 0);
    Due.is("film(0)", x.film(0), 63);
  }

  private static void orderLikeOnes() {
    Due.promise(18, "of like ones the first as digits");
    SpeaksInTurn x = table("1-s", 1, 3, 2, 1);
    Due.row("order", x::order, 123, 0, 3);
    SpeaksInTurn y = new SpeaksInTurn();
    y.person(0, 100);
    y.person(0, 5002);
    y.thing(1, 3);
    y.thing(1, 1);
    y.thing(1, 0);
    Due.law(y, "!p*(s<e)+p*(e=0)*(s=0)");
    Due.promise(18, "fewest are WRONG, then least COST, then the first as digits");
    Due.row("order: it costs least where one does not speak", y::order, 231, 0, 4 + 50 * 2);
    y.card(2, -1, 2);
    Due.row("order: who turns the third is there in time", y::order, 123, 0, 6 + 50 * 4);
    y.mend(1, 2, 4);
    Due.row("order: in MINUTE 4", y::order, 123, 0, 6 + 50 * 2);
    y.mend(1, 2, 5);
    Due.row("order: never there", y::order, 123, 1, 4);
  }

  /** Each comes as one's thing must be at hand, if it is to be decided as all cards would: the last order alone. */
  private static void orderLast() {
    for (int things = 2; things <= 5; things++) {
      SpeaksInTurn x = new SpeaksInTurn();
      x.person(0, 0);
      for (int t = 0; t < things; t++) {
        x.person(0, 5 * (things - 1 - t));
        x.thing(1, 0);
        x.card(t, -5, 2 << t);
      }
      Due.law(x, "p?n;3-s");
      Due.promise(18, "of all orders: the last of " + things + " THINGS");
      Due.row("order", x::order, 54321 % (int) Math.pow(10, things), 0, 0);
    }
  }

  // ---- promise 19

  private static void timerLikeOnes() {
    Due.promise(19, "of like ones the first");
    SpeaksInTurn x = table("1-s", 1, 1);
    Due.row("times", x::times, 1, 0, 1);
    x.set(2, 9);
    Due.row("times whatever is set", x::times, 1, 0, 1);
    x.card(0, -1, 1);
    Due.promise(19, "fewest are WRONG, then COST least");
    Due.row("times", x::times, 2, 0, 2);
    x.mend(0, 3, 2);
    Due.row("times", x::times, 1, 0, 1);
  }

  private static void timerLast() {
    SpeaksInTurn x = table("1-s", 1, 7);
    for (int c = 0; c < 10; c++) {
      x.card(0, -1, 1);
    }
    int[] worth = {1, 2, 3, 4, 5, 6, 7, 8};
    Due.promise(19, "TIMERS 1 .. 9: each of them, and no tenth");
    for (int w : worth) {
      x.mend(0, 3, w);
      Due.row("times by worth " + w, x::times, w + 1, 0, w + 1);
    }
    x.mend(0, 3, 9);
    Due.row("times by worth 9", x::times, 1, 1, 1);
    x.mend(0, 3, 11);
    Due.row("times by worth 11: by none is it WRONG", x::times, 1, 0, 1);
  }

  // ---- all of them

  /** The second thing first costs less, but only order() may change the order. */
  private static void thingsAsTheyCame() {
    SpeaksInTurn x = new SpeaksInTurn();
    x.person(0, 100);
    x.person(0, 102);
    x.thing(1, 1);
    x.thing(1, 2);
    x.card(0, -9, 2);
    Due.law(x, "!p*(s<e)+p*n");
    Due.is("meet(21)", x.meet(21), 5);
    Due.promise(17, "by THINGS as they came");
    Due.row("rule", x::rule, 0, 1, 3 + 1);
    Due.promise(19, "by THINGS as they came");
    Due.row("times", x::times, 1, 1, 3 + 1);
    Due.promise(18, "but for ORDER");
    Due.row("order", x::order, 21, 0, 5 + 3);
    Due.promise(20, "by THINGS as they came");
    x.row(0, 0, 4);
    x.put(0, 3, 1);
    Due.is("film of the other order", x.film(0), 0);
  }

  private static void leavesAllAsItWas() {
    SpeaksInTurn x = table("2-s", 3, 1, 1);
    x.card(1, -1, 1);
    x.set(0, 1);
    x.set(2, 4);
    x.set(1, 1);
    x.meet(21);
    long minutes = x.told(0);
    int[] promises = {17, 18, 19, 20, 21};
    for (int p : promises) {
      Due.promise(p, "THE MEETING kept is the latest one of meet(); all others are in thought");
      x.row(0, 0, 0);
      long ignored = p == 17 ? x.rule(0) : p == 18 ? x.order(0) : p == 19 ? x.times(0) : p == 20 ? x.film(0) : x.wish(0, 0);
      Due.is("told(0)", x.told(0), minutes);
      Due.is("the first THING", x.saying(0, 1), 1);
      Due.is("the RULE IN FORCE", x.set(0, 1), 1);
      Due.is("STANDING", x.set(1, 1), 1);
      Due.is("TIMER", x.set(2, 4), 4);
    }
  }

  /** Whatever changes between two questions, and however many at once, the second one is of the table as it is. */
  private static void behindChanges() {
    for (int changes = 1; changes < 64; changes++) {
      SpeaksInTurn x = new SpeaksInTurn();
      x.person(0, 100);
      x.thing(1, 0);
      x.card(0, 1, 1);
      Due.law(x, "s<1");
      Due.is("rule(2) ahead", x.rule(2) + x.order(2) + x.times(2), 1 + 2 + 1);
      int said = 2;
      if ((changes & 1) != 0) {
        x.person(0, 299);
      }
      if ((changes & 2) != 0) {
        x.card(0, 1, 1);
        said++;
      }
      if ((changes & 4) != 0) {
        x.set(2, 9);
      }
      if ((changes & 8) != 0) {
        x.mend(0, 2, 1);
      }
      if ((changes & 16) != 0) {
        x.thing(1, 0);
      }
      if ((changes & 32) != 0) {
        Due.law(x, "s<2");
      }
      int things = (changes & 16) != 0 ? 2 : 1;
      int sayings = (changes & 32) != 0 ? 2 : 1;
      boolean there = (changes & 8) == 0;
      int free = there ? said + sayings - 1 + (things - 1) * sayings : 0;
      int least = there ? sayings * things : 0;
      Due.promise(17, "a thought behind changes, however many");
      Due.is("rule(2) behind " + changes, x.rule(2), least);
      Due.promise(18, "a thought behind changes, however many");
      Due.is("order(2) behind " + changes, x.order(2), free);
      Due.promise(19, "a thought behind changes, however many");
      Due.is("times(2) behind " + changes, x.times(2), least);
    }
  }

  private static void ruleAndTimerInForce() {
    SpeaksInTurn x = table("2-s", 1, 1);
    for (int c = 0; c < 9; c++) {
      x.card(0, 0, 1);
    }
    int[] free = {2, 4, 6, 8, 10, 11, 11, 11, 11};
    for (int timer = 1; timer <= 9; timer++) {
      x.set(0, 0);
      x.set(2, timer);
      Due.promise(17, "by the TIMER that is set");
      Due.is("rule(0) by timer " + timer, x.rule(0), timer == 1 ? 0 : 5);
      Due.is("rule(2) by timer " + timer, x.rule(2), 2);
      Due.promise(18, "by the RULE IN FORCE and the TIMER that is set");
      Due.is("order(2) by timer " + timer, x.order(2), free[timer - 1]);
      x.set(0, 5);
      Due.is("order(2) by rule 5 and timer " + timer, x.order(2), 2);
    }
    SpeaksInTurn y = table("1-s", 1, 1);
    y.card(0, -1, 1);
    Due.promise(19, "by the RULE IN FORCE");
    Due.row("times by rule 0", y::times, 2, 0, 2);
    y.set(0, 5);
    Due.row("times by rule 5", y::times, 1, 0, 1);
    SpeaksInTurn z = table("n|t=0", 0, 1);
    z.card(0, 0, 1);
    z.card(0, 0, 1);
    Due.promise(20, "by the TIMER that is set");
    z.row(0, 0, 2);
    Due.is("film(0) by timer 3", z.film(0), 0);
    z.set(2, 2);
    Due.is("film(0) by timer 2", z.film(0), 1 + 2 + 4 + 8 + 16);
  }

  // ---- promise 20

  private static void filmRefused() {
    SpeaksInTurn x = new SpeaksInTurn();
    x.person(0, 0);
    x.thing(0, 0);
    Due.promise(20, "BAD: a SHELF 0 .. 5");
    Due.refused("film", x::film, Due.BAD, -1, 6);
    Due.promise(20, "-11: the SHELF holds nothing");
    Due.row("film", x::film, -11, -11, -11, -11, -11, -11);
    Due.promise(20, "-12: no ROW of bytes");
    for (int sort = 1; sort < 5; sort++) {
      x.row(sort, sort, 0);
      Due.is("sort " + sort, x.film(sort), Due.OTHER_KIND);
    }
    x.body(0);
    x.keep(0, 0);
    Due.is("a SAYING", x.film(0), Due.OTHER_KIND);
    Due.promise(20, "STATE: no PEOPLE, no THINGS");
    SpeaksInTurn y = new SpeaksInTurn();
    y.row(5, 0, 60);
    Due.is("neither", y.film(5), Due.STATE);
    y.person(0, 0);
    Due.is("no THINGS", y.film(5), Due.STATE);
    SpeaksInTurn z = new SpeaksInTurn();
    z.thing(0, 0);
    z.row(5, 0, 0);
    Due.is("no PEOPLE", z.film(5), Due.STATE);
    Due.refused("film", z::film, Due.BAD, -1, 6);
    z.person(0, 0);
    Due.is("one of each", z.film(5), 63);
  }

  private static void filmAsLongAsTheRow() {
    SpeaksInTurn x = table("s<59", 0, 1);
    Due.promise(20, "as many as the ROW has: none");
    x.row(0, 0, 0);
    Due.is("a ROW of 0", x.film(0), 63);
    Due.promise(20, "a MEETING that ends ahead is not so");
    x.row(0, 0, 58);
    Due.is("58 of 59", x.film(0), 63);
    x.row(0, 0, 59);
    Due.is("59 of 59", x.film(0), 63);
    x.row(0, 0, 60);
    Due.is("60 of 59", x.film(0), 0);
    Due.law(x, "0");
    x.row(0, 0, 1);
    Due.is("1 of none", x.film(0), 0);
    x.row(0, 0, 0);
    Due.is("none of none", x.film(0), 63);
    Due.promise(20, "the longest ROW: its last byte, too");
    Due.law(x, "1");
    x.row(0, 0, 60);
    Due.is("60 of 60", x.film(0), 63);
    x.put(0, 59, 1);
    Due.is("the last is another one", x.film(0), 0);
    x.put(0, 59, 0);
    x.put(0, 0, 1);
    Due.is("the first is another one", x.film(0), 0);
  }

  private static void filmOfOthers() {
    Due.promise(20, "who spoke: a byte that is no PERSON's number");
    SpeaksInTurn x = table("s<1", 0, 1);
    for (int p = 1; p < 10; p++) {
      x.person(0, 0);
    }
    x.row(0, 0, 1);
    int[] bytes = {-1, -128, 10, 127, 128, 255, 9, 1};
    for (int b : bytes) {
      x.put(0, 0, b);
      Due.is("a byte of " + b, x.film(0), 0);
    }
    x.put(0, 0, 256);
    Due.is("a byte of 256 is 0", x.film(0), 63);
    Due.promise(20, "who spoke: the last PERSON");
    x.row(0, 0, 10);
    for (int i = 0; i < 10; i++) {
      x.put(0, i, i);
    }
    Due.is("each in turn", x.film(0), 63);
    Due.promise(20, "RULES as bits: each of its own");
    SpeaksInTurn y = new SpeaksInTurn();
    y.person(0, 0);
    y.person(0, 0);
    y.person(90, 0);
    y.thing(0, 0);
    y.card(0, 0, 1);
    Due.law(y, "s<2?2+(p=2)-n;0");
    film(y, 1 + 4 + 32, 2);
    film(y, 2 + 8, 0);
    film(y, 16, 1);
    film(y, 2, 0, 1);
    film(y, 8, 0, 0);
    film(y, 4, 2, 1);
    film(y, 1 + 32, 2, 2);
    film(y, 1, 2, 2, 1);
    film(y, 32, 2, 2, 0);
  }

  private static void film(SpeaksInTurn x, int due, int... who) {
    x.row(0, 0, who.length);
    for (int i = 0; i < who.length; i++) {
      x.put(0, i, who[i]);
    }
    Due.is("film of " + Arrays.toString(who), x.film(0), due);
  }
}
