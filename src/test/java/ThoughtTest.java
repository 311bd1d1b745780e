/** Promises 17 to 20: the best rule, order and timer, and the rules that a film shows. */
public final class ThoughtTest {
  public static void main(String[] args) {
    refusals();
    rules();
    orders();
    timers();
    likeOnes();
    changed();
    everyOrder();
    lastTimer();
    apart();
    filmRefusals();
    films();
    Due.end();
  }

  private static void asks(SpeaksInTurn x, int rule, int order, int times) {
    for (int what = 0; what < 3; what++) {
      Due.is("rule(" + what + ")", x.rule(what), rule);
      Due.is("order(" + what + ")", x.order(what), order);
      Due.is("times(" + what + ")", x.times(what), times);
    }
    int[] bad = {-1, 3, Integer.MIN_VALUE, Integer.MAX_VALUE};
    for (int what : bad) {
      Due.is("rule bad", x.rule(what), -1);
      Due.is("order bad", x.order(what), -1);
      Due.is("times bad", x.times(what), -1);
    }
  }

  private static void refusals() {
    SpeaksInTurn x = new SpeaksInTurn();
    asks(x, -5, -5, -5);
    x.person(0, 0);
    asks(x, -5, -5, -5);
    x = new SpeaksInTurn();
    x.thing(0, 0);
    asks(x, -5, -5, -5);
    x.person(0, 0);
    for (int t = 1; t < 5; t++) {
      x.thing(0, 0);
    }
    Due.is("five things", x.order(0), 12345);
    x.thing(0, 0);
    Due.is("six things", x.order(0), -5);
    Due.is("six things, bad", x.order(3), -1);
    Due.is("six things, a rule", x.rule(0), 0);
    Due.is("no meeting is kept", x.told(0), -5);
  }

  /** One card turns the thing: by the first law it is said on paper only. */
  private static void rules() {
    SpeaksInTurn x = new SpeaksInTurn();
    x.person(0, 700);
    x.thing(1, 0);
    x.card(0, -5, 1);
    Due.law(x, "0");
    Due.is("paper", x.rule(0), 5);
    Due.is("none wrong", x.rule(1), 0);
    Due.is("no cost", x.rule(2), 0);
    Due.law(x, "5-s");
    Due.is("paper costs least", x.rule(0), 5);
    Due.is("none wrong", x.rule(1), 0);
    Due.is("cost", x.rule(2), 5 * 7);
    Due.is("the rule in force stays", x.set(0, 0), 0);
    Due.law(x, "n|s?0-(t=0);1");
    Due.is("nobody speaks but on paper", x.rule(2), 7 * 1);
  }

  /** One knows a card of the first thing and comes in minute 2: by 21 one is there in time. */
  private static void orders() {
    SpeaksInTurn x = new SpeaksInTurn();
    x.person(0, 1000);
    x.person(0, 102);
    x.thing(1, 1);
    x.thing(5, 2);
    x.card(0, -9, 2);
    Due.law(x, "!p*(e-s)+p*n");
    Due.is("in time", x.order(0), 21);
    Due.is("none wrong", x.order(1), 0);
    Due.is("cost", x.order(2), 50 + 3);
    Due.is("as they came", x.meet(12), 3);
    Due.is("wrong", x.told(4), 1);
    x.mend(0, 3, 99);
    Due.is("nothing is wrong by either order", x.order(1), 0);
    Due.is("but one costs less", x.order(0), 12);
    Due.is("cost", x.order(2), 30 + 1);
    Due.is("the meeting kept stays", x.told(4), 1);
  }

  private static void timers() {
    SpeaksInTurn x = new SpeaksInTurn();
    x.person(0, 200);
    x.thing(3, 0);
    for (int c = 0; c < 4; c++) {
      x.card(0, -1, 1);
    }
    Due.law(x, "1-s");
    Due.is("three cards must be said", x.times(0), 4);
    Due.is("none wrong", x.times(1), 0);
    Due.is("cost", x.times(2), 8);
    x.mend(0, 3, 9);
    Due.is("none must be said", x.times(0), 1);
    Due.is("cost", x.times(2), 2);
    Due.is("the timer stays", x.set(2, 3), 3);
    x.mend(0, 3, 3);
    x.set(1, 1);
    Due.is("standing", x.times(0), 4);
    Due.is("cost", x.times(2), 6);
  }

  private static void likeOnes() {
    SpeaksInTurn x = new SpeaksInTurn();
    x.person(0, 0);
    for (int t = 0; t < 4; t++) {
      x.thing(t, t);
    }
    Due.is("the first rule", x.rule(0), 0);
    Due.is("the first order", x.order(0), 1234);
    Due.is("the first timer", x.times(0), 1);
  }

  /** What was thought out before a change is not told behind it. */
  private static void changed() {
    SpeaksInTurn x = new SpeaksInTurn();
    x.person(9, 100);
    x.thing(1, 0);
    Due.law(x, "1-s");
    costs(x, 1);
    x.person(0, 200);
    costs(x, 2 + 4);
    x.thing(1, 0);
    costs(x, 12);
    x.card(0, 9, 1);
    costs(x, 15, 12, 12);
    x.set(1, 1);
    costs(x, 15, 12, 12);
    x.set(2, 1);
    costs(x, 12);
    x.mend(1, 2, 3);
    costs(x, 2 + 0);
    x.undo();
    costs(x, 12);
    x.redo();
    costs(x, 2);
    x.undo();
    Due.law(x, "2-s");
    costs(x, 24);
    x.row(0, 1, 3);
    x.set(2, 2);
    x.set(1, 0);
    costs(x, 27, 24, 24);
    x.cards(0, 0, 1);
    costs(x, 27, 24, 24);
    x.put(0, 2, 3);
    x.cards(0, 0, 1);
    costs(x, 30, 24, 24);
  }

  private static void costs(SpeaksInTurn x, int cost) {
    costs(x, cost, cost, cost);
  }

  private static void costs(SpeaksInTurn x, int order, int rule, int times) {
    Due.is("cost of the order", x.order(2), order);
    Due.is("cost of the rule", x.rule(2), rule);
    Due.is("cost of the timer", x.times(2), times);
  }

  /** Each of five comes as one's own thing is at hand by just one order; else a card is not said. */
  private static void everyOrder() {
    for (int order = 12345; order <= 54321; order++) {
      int[] place = new int[5];
      int seen = 0;
      for (int i = 4, rest = order; i >= 0; i--, rest /= 10) {
        int thing = rest % 10 - 1;
        if (thing >= 0 && thing < 5) {
          place[thing] = i;
          seen |= 1 << thing;
        }
      }
      if (seen == 31) {
        oneOrder(order, place);
      }
    }
  }

  private static void oneOrder(int order, int[] place) {
    SpeaksInTurn x = new SpeaksInTurn();
    x.person(0, 0);
    for (int t = 0; t < 5; t++) {
      x.person(0, 5 * place[t]);
      x.thing(1, 0);
      x.card(t, -5, 2 << t);
    }
    Due.law(x, "p?n;3-s");
    Due.is("the only order", x.order(0), order);
    Due.is("none wrong", x.order(1), 0);
    Due.is("by it", x.meet(order), 25);
    Due.is("none wrong", x.told(4), 0);
  }

  private static void lastTimer() {
    SpeaksInTurn x = new SpeaksInTurn();
    x.person(0, 100);
    x.thing(8, 0);
    for (int c = 0; c < 12; c++) {
      x.card(0, -1, 1);
    }
    Due.law(x, "1-s");
    Due.is("the last timer", x.times(0), 9);
    Due.is("none wrong", x.times(1), 0);
    Due.is("cost", x.times(2), 9);
    x.mend(0, 3, 9);
    Due.is("there is no tenth", x.times(0), 1);
    Due.is("one wrong", x.times(1), 1);
  }

  /** What is thought out leaves nothing behind for the next thought. */
  private static void apart() {
    SpeaksInTurn x = new SpeaksInTurn();
    x.person(5, 100);
    x.person(55, 100);
    x.thing(1, 0);
    x.thing(1, 1);
    x.card(0, 1, 1);
    Due.law(x, "e=p?1+n-s-l;0");
    x.row(3, 0, 2);
    x.put(3, 1, 1);
    int film = x.film(3);
    int wish = x.wish(0, 0);
    Due.is("wish", wish, 2);
    Due.is("film", film, 63);
    x.order(0);
    Due.is("film behind an order", x.film(3), film);
    Due.is("wish behind a film", x.wish(0, 0), wish);
    x.rule(0);
    Due.is("wish behind a rule", x.wish(0, 0), wish);
    Due.is("wish of who spoke last", x.wish(1, 1), 1);
    x.order(0);
    x.times(0);
    Due.is("film behind all", x.film(3), film);
  }

  private static void filmRefusals() {
    SpeaksInTurn x = new SpeaksInTurn();
    Due.is("no shelf", x.film(6), -1);
    Due.is("no shelf", x.film(-1), -1);
    Due.is("nothing", x.film(0), -11);
    x.row(0, 1, 0);
    Due.is("shorts", x.film(0), -12);
    x.body(0);
    x.keep(0, 0);
    Due.is("a saying", x.film(0), -12);
    x.row(0, 0, 0);
    Due.is("no people", x.film(0), -5);
    x.person(0, 0);
    Due.is("no things", x.film(0), -5);
    x.thing(0, 0);
    Due.is("an empty film holds by every rule", x.film(0), 63);
    Due.is("no meeting is kept", x.told(0), -5);
  }

  private static void film(SpeaksInTurn x, int due, int... who) {
    x.row(3, 0, who.length);
    for (int i = 0; i < who.length; i++) {
      x.put(3, i, who[i]);
    }
    Due.is("film of " + who.length, x.film(3), due);
  }

  /** Each wishes five times: by 0, 1, 2 and 5 they take turns, by the stick 0 goes on, the chief 0 is last by 4. */
  private static void films() {
    SpeaksInTurn x = new SpeaksInTurn();
    x.person(90, 0);
    x.person(40, 0);
    x.thing(0, 0);
    Due.law(x, "10-2*s-p");
    film(x, 1 + 2 + 4 + 8 + 32, 0);
    film(x, 16, 1);
    film(x, 0, 2);
    film(x, 0, -1);
    film(x, 0, 256 - 1);
    film(x, 1 + 2 + 4 + 32, 0, 1);
    film(x, 8, 0, 0);
    film(x, 16, 1, 1, 1, 1, 1, 0);
    film(x, 1 + 2 + 4 + 32, 0, 1, 0, 1, 0, 1, 0, 1, 0, 1);
    film(x, 0, 0, 1, 0, 1, 0, 1, 0, 1, 0, 1, 0);
    film(x, 8, 0, 0, 0, 0, 0, 1, 1, 1, 1, 1);
    x.row(3, 0, 60);
    Due.is("a meeting that ends ahead", x.film(3), 0);
    x.mend(1, 2, 99);
    Due.law(x, "1");
    Due.is("sixty sayings", x.film(3), 63);
  }
}
