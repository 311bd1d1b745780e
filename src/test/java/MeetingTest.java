/** Promises 11 to 16: a meeting by each rule, and all that is told of it. */
public final class MeetingTest {
  private static final int VOID = SpeaksInTurn.VOID;

  public static void main(String[] args) {
    orders();
    refusals();
    told();
    late();
    said();
    standingAndTimer();
    lastSpeaker();
    free();
    byTurns();
    notYet();
    stick();
    chiefLast();
    paper();
    stopped();
    stoppedAgain();
    stoppedWithLittle();
    ends();
    shed();
    needed();
    strangers();
    keptAsItWas();
    cameBehind();
    withoutLaw();
    heldTwice();
    fullTable();
    Due.end();
  }

  private static SpeaksInTurn table(String law, int... people) {
    SpeaksInTurn x = new SpeaksInTurn();
    for (int rv : people) {
      x.person(rv, 100);
    }
    x.thing(1, 0);
    Due.is("law " + law, Due.law(x, law), 1);
    return x;
  }

  private static void who(SpeaksInTurn x, int... due) {
    for (int i = 0; i < due.length; i++) {
      Due.is("who speaks in " + i, x.saying(i, 0), due[i]);
    }
  }

  private static void says(SpeaksInTurn x, int i, int... due) {
    for (int what = 0; what < due.length; what++) {
      Due.is("saying(" + i + ", " + what + ")", x.saying(i, what), due[what]);
    }
  }

  private static void orders() {
    SpeaksInTurn x = new SpeaksInTurn();
    Due.is("no things: 1", x.meet(1), -1);
    Due.is("no things: 0", x.meet(0), -5);
    x.thing(1, 0);
    x.thing(1, 0);
    x.thing(1, 0);
    Due.is("no people", x.meet(123), -5);
    Due.is("no people, a bad order", x.meet(122), -1);
    x.person(0, 0);
    int[] bad = {1, 12, 21, 122, 124, 120, 1230, 1231, 1123, -123, 10, 1234, Integer.MAX_VALUE, Integer.MIN_VALUE,
        1000000123};
    for (int order : bad) {
      Due.is("meet(" + order + ")", x.meet(order), -1);
    }
    Due.is("none was held", x.told(0), -5);
    Due.law(x, "1-s");
    int[] orders = {123, 132, 213, 231, 312, 321};
    for (int order : orders) {
      Due.is("meet(" + order + ")", x.meet(order), 3);
      Due.is("first thing", x.saying(0, 1), order / 100 - 1);
      Due.is("second thing", x.saying(1, 1), order / 10 % 10 - 1);
      Due.is("third thing", x.saying(2, 1), order % 10 - 1);
    }
    Due.is("as they came", x.meet(0), 3);
    Due.is("third thing", x.saying(2, 1), 2);
    x.thing(1, 0);
    x.thing(1, 0);
    x.thing(1, 0);
    Due.is("six things", x.meet(654321), 6);
    Due.is("first thing", x.saying(0, 1), 5);
    Due.is("an order that lacks some", x.meet(321), -1);
  }

  private static void refusals() {
    SpeaksInTurn x = new SpeaksInTurn();
    int[] bad = {-1, 10, Integer.MIN_VALUE, Integer.MAX_VALUE};
    for (int what : bad) {
      Due.is("told", x.told(what), -1);
      Due.is("saying", x.saying(0, what), -1);
      Due.is("did", x.did(0, what), -1);
      Due.is("took", x.took(0, what), VOID);
      Due.is("first", x.first(0, what), VOID);
    }
    Due.is("told", x.told(9), -5);
    Due.is("saying", x.saying(-1, 6), -5);
    Due.is("did", x.did(-1, 3), -5);
    x.person(0, 0);
    x.thing(0, 0);
    x.card(0, 0, 1);
    Due.is("took without a meeting", x.took(0, 0), VOID);
    Due.is("first without a meeting", x.first(0, 0), VOID);
    x.meet(0);
    for (int what : bad) {
      Due.is("told", x.told(what), -1);
      Due.is("saying", x.saying(0, what), -1);
      Due.is("did", x.did(0, what), -1);
      Due.is("took", x.took(0, what), VOID);
      Due.is("first", x.first(0, what), VOID);
      if (what != 10) {
        Due.is("saying", x.saying(what, 0), -1);
      }
      Due.is("did", x.did(what, 0), -1);
      Due.is("took", x.took(what, 0), VOID);
      Due.is("first", x.first(what, 0), VOID);
    }
    Due.is("behind the last saying", x.saying(x.told(1), 0), -1);
    Due.is("saying 7", x.saying(0, 7), -1);
    Due.is("did 4", x.did(0, 4), -1);
    Due.is("person 1", x.did(1, 0), -1);
    Due.is("took 2", x.took(0, 2), VOID);
    Due.is("thing 1", x.took(1, 0), VOID);
    Due.is("first 2", x.first(0, 2), VOID);
    Due.is("card 1", x.first(1, 0), VOID);
  }

  /** One knows two cards, the other one two, of which one is the same: worth 1, cards 5, -9, 1. */
  private static SpeaksInTurn twoAtTable(int lateOfOther) {
    SpeaksInTurn x = new SpeaksInTurn();
    x.person(0, 1000);
    x.person(0, 2000 + lateOfOther);
    x.thing(1, 0);
    x.card(0, 5, 1);
    x.card(0, -9, 2);
    x.card(0, 1, 3);
    Due.law(x, "n");
    return x;
  }

  private static void told() {
    SpeaksInTurn x = twoAtTable(0);
    Due.is("meet", x.meet(0), 5);
    int[] due = {5, 2, 0, 0, 0, 2, 2, 150, 0, 2};
    for (int what = 0; what < due.length; what++) {
      Due.is("told(" + what + ")", x.told(what), due[what]);
    }
    says(x, 0, 0, 0, 0, 3, 5, -2, -2);
    says(x, 1, 1, 0, 3, 2, 2, -2, -2);
    Due.is("took", x.took(0, 0), 5);
    Due.is("comes to", x.took(0, 1), -2);
    Due.is("share", x.did(0, 0), 600);
    Due.is("share", x.did(1, 0), 400);
    Due.is("minutes there", x.did(1, 3), 5);
    int[] whoFirst = {0, 1, 0};
    int[] inSaying = {0, 1, 0};
    for (int c = 0; c < 3; c++) {
      Due.is("who said it first", x.first(c, 0), whoFirst[c]);
      Due.is("in which saying", x.first(c, 1), inSaying[c]);
    }
  }

  private static void late() {
    SpeaksInTurn x = twoAtTable(4);
    Due.is("it ends ahead of one who is late", x.meet(0), 3);
    int[] due = {3, 1, 1, 0, 1, 1, 2, 30, 0, 0};
    for (int what = 0; what < due.length; what++) {
      Due.is("late told(" + what + ")", x.told(what), due[what]);
    }
    Due.is("never there", x.did(1, 3), 0);
    Due.is("nobody said it", x.first(1, 0), -2);
    Due.is("in no saying", x.first(1, 1), -2);
    x.mend(1, 2, 3);
    Due.is("there from one's minute on", x.meet(0), 5);
    Due.is("minutes there", x.did(1, 3), 2);
    Due.is("cost", x.told(7), 5 * 10 + 2 * 20);
    Due.law(x, "!p*n");
    Due.is("who is there at the end and is silent", x.meet(0), 3);
    Due.is("holds back", x.told(3), 2);
    x.mend(1, 2, 4);
    Due.is("who is not there", x.meet(0), 3);
    Due.is("holds nothing back", x.told(3), 0);
  }

  private static void said() {
    SpeaksInTurn x = table("3-s", 0, 0, 0);
    x.card(0, 4, 3);
    x.card(0, 4, 3);
    x.card(0, 4, 1);
    x.set(2, 2);
    x.meet(0);
    who(x, 0, 1, 2, 0, 1, 2, 0, 1, 2);
    says(x, 0, 0, 0, 0, 2, 1, -2, -2);
    says(x, 1, 1, 0, 2, 2, 2, -2, -2);
    says(x, 2, 2, 0, 4, 1, 0, -2, -2);
    says(x, 3, 0, 0, 5, 2, 4, -2, -2);
    says(x, 4, 1, 0, 7, 1, 0, 0, -2);
    says(x, 5, 2, 0, 8, 1, 0, -2, -2);
    says(x, 6, 0, 0, 9, 1, 0, 0, -2);
    Due.is("one's own again is not taken", x.did(0, 2), 0);
    Due.is("another one's is", x.did(1, 2), 2);
    Due.is("empty is not", x.did(2, 2), 0);
    Due.is("minutes", x.told(0), 12);
    Due.is("share cut", x.did(0, 0), 5 * 1000 / 12);
    Due.is("who said the third", x.first(2, 0), 0);
    Due.is("in which saying", x.first(2, 1), 3);
  }

  private static void standingAndTimer() {
    int[] sitting = {1, 2, 3, 4, 5, 6, 6, 6, 6};
    int[] standing = {1, 2, 2, 3, 4, 4, 4, 4, 4};
    for (int timer = 1; timer <= 9; timer++) {
      SpeaksInTurn x = table("1-s", 0);
      for (int c = 0; c < 5; c++) {
        x.card(0, 1, 1);
      }
      x.set(2, timer);
      Due.is("sitting by timer " + timer, x.meet(0), sitting[timer - 1]);
      Due.is("said", x.saying(0, 4), (1 << Math.min(5, timer - 1)) - 1);
      Due.is("held back", x.told(3), 31 & ~x.saying(0, 4));
      x.set(1, 1);
      Due.is("standing by timer " + timer, x.meet(0), standing[timer - 1]);
      Due.is("said", x.saying(0, 4), (1 << Math.min(5, timer - 1)) - 1);
    }
  }

  private static void lastSpeaker() {
    SpeaksInTurn x = table("s?0;l?9;r", 20, 30);
    x.thing(1, 0);
    x.meet(0);
    Due.is("each once a thing", x.told(1), 4);
    who(x, 1, 0, 0, 1);
    x = table("p=0?2-s;l?3-s;1-s", 0, 0);
    x.meet(0);
    who(x, 0, 0, 1, 1, 1);
    Due.is("no more", x.told(1), 5);
    x = table("s=0?5;s=1?l=1;0", 0);
    Due.is("l is 1", x.meet(0), 2);
  }

  private static void free() {
    SpeaksInTurn x = table("r-3*s", 40, 70, 70);
    x.meet(0);
    who(x, 1, 2, 0, 1, 2, 0, 1, 2);
    Due.is("sayings", x.told(1), 8);
  }

  private static void byTurns() {
    SpeaksInTurn x = table("r-3*s", 40, 70, 70, 0);
    x.thing(1, 0);
    x.set(0, 1);
    x.meet(0);
    who(x, 0, 1, 2, 0, 1, 2, 1, 2, 0, 1, 2, 0, 1, 2, 1, 2);
    Due.is("sayings", x.told(1), 16);
    x = table("2-s+t*0", 0, 0);
    x.mend(0, 2, 1);
    x.set(0, 1);
    x.meet(0);
    who(x, 1, 0, 1, 0);
  }

  private static void notYet() {
    SpeaksInTurn x = table("r-3*s", 10, 70, 80, 80);
    x.set(0, 2);
    x.meet(0);
    who(x, 2, 3, 1, 0, 2, 3, 1, 2, 3, 1);
    Due.is("sayings", x.told(1), 10);
  }

  private static void stick() {
    SpeaksInTurn x = table("r-3*s", 40, 70, 20);
    x.thing(1, 0);
    x.set(0, 3);
    x.meet(0);
    who(x, 0, 0, 1, 1, 1, 2, 2, 0, 0, 1, 1, 1);
    Due.is("sayings", x.told(1), 12);
  }

  private static void chiefLast() {
    SpeaksInTurn x = table("v-3*s", 99, 33, 56, 98);
    x.set(0, 4);
    x.meet(0);
    who(x, 2, 1, 2, 0, 3, 0, 3, 0, 3);
    Due.is("sayings", x.told(1), 9);
    Due.is("nobody else is there", x.mend(1, 2, 99), 0);
    x.mend(2, 2, 99);
    x.meet(0);
    who(x, 0, 3, 0, 3, 0, 3);
    x.mend(0, 2, 99);
    x.mend(3, 2, 2);
    x.mend(1, 2, 0);
    x.mend(2, 2, 0);
    x.meet(0);
    who(x, 1, 2, 2, 3, 3, 3);
    x = table("v-3*s", 12, 39);
    x.set(0, 4);
    x.meet(0);
    who(x, 0, 1, 1, 1);
  }

  private static void paper() {
    SpeaksInTurn x = new SpeaksInTurn();
    x.person(0, 0);
    x.person(0, 1);
    x.thing(1, 0);
    x.thing(1, 0);
    x.card(0, -5, 1);
    x.card(0, -5, 2);
    x.card(1, -5, 2);
    x.card(1, -5, 512);
    x.card(1, 3, 0);
    x.set(0, 5);
    Due.law(x, "1-s");
    Due.is("meet", x.meet(0), 5);
    int[] first = {-1, 1, -1, -2, -2};
    int[] saying = {-1, 1, -1, -2, -2};
    for (int c = 0; c < 5; c++) {
      Due.is("paper first(" + c + ", 0)", x.first(c, 0), first[c]);
      Due.is("paper first(" + c + ", 1)", x.first(c, 1), saying[c]);
    }
    says(x, 0, 0, 0, 0, 1, 0, 0, -2);
    says(x, 1, 1, 0, 1, 2, 2, -2, -2);
    says(x, 2, 0, 1, 3, 1, 0, -2, -2);
    says(x, 3, 1, 1, 4, 1, 0, 2, -2);
    Due.is("paper is nobody's", x.did(1, 2), 0);
    Due.is("decided", x.told(2), 0);
    Due.law(x, "0");
    Due.is("in no time", x.meet(21), 0);
    Due.is("on paper though nobody speaks", x.first(0, 0), -1);
    Due.is("who is not there yet writes nothing", x.first(2, 0), -2);
    x.mend(0, 2, 1);
    x.meet(0);
    Due.is("nobody is there: no paper", x.first(0, 0), -2);
    Due.is("and nothing is held back", x.told(3), 0);
  }

  private static void stopped() {
    SpeaksInTurn x = new SpeaksInTurn();
    x.person(2, 0);
    x.person(4, 0);
    x.person(5, 0);
    x.person(9, 0);
    x.thing(0, 0);
    x.card(0, 1, 1);
    x.card(0, 1, 1);
    x.card(0, 1, 15);
    Due.law(x, "s?0;p=0?3;p=3?3;p+3");
    x.set(0, 1);
    x.set(2, 9);
    Due.is("meet", x.meet(0), 4 + 1);
    says(x, 0, 0, 0, 0, 1, 1, -2, 2);
    says(x, 1, 1, 0, 1, 2, 4, -2, -2);
    says(x, 2, 2, 0, 3, 1, 0, 2, -2);
    says(x, 3, 3, 0, 4, 1, 0, 2, -2);
    Due.is("stops of 2", x.did(2, 1), 1);
    Due.is("stops of 3", x.did(3, 1), 0);
    Due.is("stops of 0", x.did(0, 1), 0);
    Due.is("held back", x.told(3), 2);
    x.mend(2, 2, 1);
    x.meet(0);
    Due.is("who is not there stops nobody", x.saying(0, 6), -2);
    Due.is("long", x.saying(0, 3), 4);
    x.set(1, 1);
    x.mend(2, 2, 0);
    x.meet(0);
    Due.is("one minute standing, too", x.saying(0, 3), 1);
    x = table("p?2-s;5-s", 9, 2);
    x.set(0, 1);
    x.meet(0);
    who(x, 0, 1, 0, 1, 0, 0, 0);
    Due.is("by person 0", x.saying(1, 6), 0);
    Due.is("not twice in a row", x.saying(3, 6), -2);
    Due.is("stops of 0", x.did(0, 1), 1);
  }

  private static void stoppedAgain() {
    SpeaksInTurn x = table("v+1", 0, 5, 9);
    x.set(0, 1);
    x.meet(0);
    who(x, 0, 1, 2, 0, 1, 2, 0, 1, 2);
    int[] by = {1, 2, -2, 2, -2, -2, 1, 2, -2, 2, -2, -2};
    for (int i = 0; i < by.length; i++) {
      Due.is("stopped in " + i, x.saying(i, 6), by[i]);
    }
    Due.is("stops of 0", x.did(0, 1), 0);
    Due.is("stops of 1", x.did(1, 1), 10);
    Due.is("stops of 2", x.did(2, 1), 20);
    x.set(0, 3);
    x.meet(0);
    int[] alone = {1, 2, 1, 2, 1};
    for (int i = 0; i < alone.length; i++) {
      Due.is("with the stick stopped in " + i, x.saying(i, 6), alone[i]);
    }
    x = table("v+1-s*9", 0, 5);
    x.thing(1, 0);
    x.mend(0, 1, 1);
    x.set(0, 1);
    x.meet(0);
    Due.is("stopped on the first thing", x.saying(0, 6), 1);
    Due.is("not by the same one on the next thing", x.saying(2, 6), -2);
  }

  private static void stoppedWithLittle() {
    SpeaksInTurn x = table("1+v-s*9", 0, 5);
    x.card(0, 1, 1);
    x.set(0, 1);
    x.set(2, 1);
    x.meet(0);
    says(x, 0, 0, 0, 0, 1, 0, -2, 1);
    Due.is("by a timer of 1 no card is said", x.first(0, 0), -2);
    x.set(2, 2);
    x.meet(0);
    says(x, 0, 0, 0, 0, 1, 1, -2, 1);
  }

  private static void ends() {
    SpeaksInTurn x = table("1", 0);
    for (int i = 1; i < 6; i++) {
      x.thing(1, 0);
    }
    Due.is("200 sayings", x.meet(0), 200);
    Due.is("sayings", x.told(1), 200);
    int[] took = {60, 60, 60, 20, 0, 0};
    for (int t = 0; t < 6; t++) {
      Due.is("took " + t, x.took(t, 0), took[t]);
    }
    Due.is("the last", x.saying(199, 2), 199);
    Due.is("no more", x.saying(200, 0), -1);
    SpeaksInTurn y = table("t<59?!p;1", 0, 0);
    for (int c = 0; c < 9; c++) {
      y.card(0, 1, 2);
    }
    y.set(0, 1);
    y.set(2, 9);
    Due.is("begun ahead of 60", y.meet(0), 68);
    Due.is("took", y.took(0, 0), 68);
  }

  private static void shed() {
    SpeaksInTurn x = new SpeaksInTurn();
    x.person(0, 0);
    x.thing(-3, 4);
    x.thing(7, 8);
    x.thing(1, 2);
    Due.law(x, "e-s");
    x.meet(0);
    Due.is("1000 each: the first", x.told(8), 0);
    x.mend(1, 3, -6);
    x.meet(0);
    Due.is("1142 by its worth's size", x.told(8), 1);
    x.mend(2, 3, 0);
    x.meet(0);
    Due.is("2000", x.told(8), 2);
    Due.law(x, "0");
    x.meet(0);
    Due.is("none took any", x.told(8), 0);
    x = new SpeaksInTurn();
    x.person(0, 0);
    x.thing(87, 0);
    x.thing(-90, 1);
    Due.law(x, "29+e-s");
    Due.is("29 and 30", x.meet(0), 59);
    Due.is("329 each when cut: the first", x.told(8), 0);
  }

  private static void needed() {
    SpeaksInTurn x = new SpeaksInTurn();
    x.person(0, 0);
    x.person(0, 0);
    x.person(0, 0);
    x.thing(2, 0);
    x.thing(-2, 0);
    x.card(0, -3, 1);
    x.card(1, 3, 6);
    x.card(1, 0, 2);
    Due.law(x, "n");
    x.meet(0);
    Due.is("only one knows the first", x.told(9), 1);
    x.card(1, -3, 4);
    x.meet(0);
    Due.is("decided", x.told(2), 0);
    Due.is("without 2 the second is yes", x.told(9), 5);
  }

  private static void strangers() {
    SpeaksInTurn x = table("1-s", 0, 0);
    x.card(0, -9, 4);
    x.card(0, -9, 0);
    x.card(0, 2, 5);
    x.card(0, 2, 3);
    x.meet(0);
    Due.is("what only strangers know counts for nothing", x.told(4), 0);
    Due.is("nor is it held back", x.told(3), 0);
    Due.is("alone is what one at the table knows", x.told(6), 1);
    Due.is("said", x.told(5), 1);
    Due.is("comes to", x.took(0, 1), 5);
    x.person(0, 99);
    x.meet(0);
    Due.is("somebody at all", x.told(4), 1);
    Due.is("two know the third, one the first", x.told(6), 1);
    Due.is("not said", x.told(5), 0);
  }

  private static void withoutLaw() {
    SpeaksInTurn x = new SpeaksInTurn();
    x.person(4, 0);
    x.thing(1, 8);
    Due.is("12, 7, 2", x.meet(0), 3);
    Due.is("sayings", x.told(1), 3);
    x.mend(0, 2, 1);
    Due.is("nobody is there", x.meet(0), 0);
    Due.is("no share", x.did(0, 0), 0);
    x.mend(0, 2, 0);
    Due.law(x, "1-s");
    Due.is("one minute", x.meet(0), 1);
    Due.is("all of it", x.did(0, 0), 1000);
  }

  private static void heldTwice() {
    SpeaksInTurn x = table("v+2-s*3", 0, 5);
    x.card(0, 1, 3);
    x.set(0, 1);
    for (int i = 0; i < 3; i++) {
      Due.is("meet", x.meet(0), 4);
      says(x, 0, 0, 0, 0, 1, 1, -2, 1);
      says(x, 1, 1, 0, 1, 1, 0, 0, -2);
      Due.is("stops", x.did(1, 1), 1);
      Due.is("taken", x.did(1, 2), 3);
      Due.is("share", x.did(0, 0), 250);
      Due.is("took", x.took(0, 0), 4);
      Due.is("sayings", x.told(1), 4);
    }
    Due.law(x, "0");
    Due.is("nobody speaks", x.meet(0), 0);
    Due.is("stops", x.did(1, 1), 0);
    Due.is("taken", x.did(1, 2), 0);
    Due.is("share", x.did(0, 0), 0);
    Due.is("took", x.took(0, 0), 0);
    Due.is("first", x.first(0, 0), -2);
    Due.is("no saying", x.saying(0, 0), -1);
  }

  private static void fullTable() {
    SpeaksInTurn x = new SpeaksInTurn();
    for (int p = 0; p < 10; p++) {
      x.person(p * 10, 100);
    }
    for (int t = 0; t < 6; t++) {
      x.thing(1, 0);
    }
    for (int c = 0; c < 20; c++) {
      x.card(c % 6, 1, 1 << c % 10);
    }
    Due.law(x, "n");
    for (int rule = 0; rule < 6; rule++) {
      int minutes = rule == 5 ? 0 : 40;
      x.set(0, rule);
      Due.is("full table by rule " + rule, x.meet(634152), minutes);
      int[] due = {minutes, minutes / 2, 63, 0, 0, 20, 20, 10 * minutes, 0, 0};
      for (int what = 0; what < 10; what++) {
        if (what != 8) {
          Due.is("full table told(" + what + ") by rule " + rule, x.told(what), due[what]);
        }
      }
      Due.is("first of the last", x.first(19, 0), rule == 5 ? -1 : 9);
      Due.is("the last one's minutes", x.did(9, 3), minutes);
      Due.is("the last one's share", x.did(9, 0), rule == 5 ? 0 : 100);
    }
    x.set(0, 0);
    x.mend(9, 2, 99);
    x.meet(0);
    Due.is("alone but not said", x.told(5), 18);
    Due.is("alone", x.told(6), 20);
  }

  private static void keptAsItWas() {
    SpeaksInTurn x = twoAtTable(0);
    x.meet(0);
    int[] told = new int[10];
    for (int what = 0; what < 10; what++) {
      told[what] = x.told(what);
    }
    x.mend(0, 3, 99);
    x.mend(0, 2, 9);
    x.set(0, 5);
    x.set(2, 1);
    x.person(99, 9900);
    x.thing(7, 7);
    x.card(0, 9, 7);
    Due.law(x, "0");
    x.rule(0);
    x.order(0);
    x.times(0);
    Due.is("a bad order", x.meet(11), -1);
    for (int what = 0; what < 10; what++) {
      Due.is("still told(" + what + ")", x.told(what), told[what]);
    }
    Due.is("still took", x.took(0, 0), 5);
    Due.is("still comes to", x.took(0, 1), -2);
    Due.is("still there", x.did(0, 3), 5);
    Due.is("still share", x.did(0, 0), 600);
    says(x, 1, 1, 0, 3, 2, 2, -2, -2);
    Due.is("still first", x.first(1, 0), 1);
    Due.is("still in which saying", x.first(1, 1), 1);
  }

  /** THE MEETING has the people, things and cards with which it was held, and none that came later. */
  private static void cameBehind() {
    SpeaksInTurn x = twoAtTable(0);
    x.meet(0);
    behind(x, 2, 1, 3);
    x.person(99, 9900);
    x.thing(7, 7);
    x.card(0, 9, 7);
    x.card(1, 9, 7);
    behind(x, 2, 1, 3);
    Due.is("a refused meeting is none", x.meet(13), -1);
    behind(x, 2, 1, 3);
    x.rule(0);
    x.wish(2, 1);
    behind(x, 2, 1, 3);
    Due.is("did: what ahead of the person", x.did(2, 4), -1);
    x.meet(21);
    behind(x, 3, 2, 5);
    x.person(0, 0);
    behind(x, 3, 2, 5);
    x.meet(0);
    behind(x, 4, 2, 5);
    SpeaksInTurn y = new SpeaksInTurn();
    y.person(0, 0);
    y.thing(0, 0);
    y.meet(0);
    behind(y, 1, 1, 0);
    y.card(0, 0, 0);
    behind(y, 1, 1, 0);
    y.meet(0);
    behind(y, 1, 1, 1);
  }

  /** Of a meeting held with so many the last ones answer, the next ones do not. */
  private static void behind(SpeaksInTurn x, int people, int things, int cards) {
    for (int what = 0; what < 4; what++) {
      Due.holds("person of the meeting", x.did(people - 1, what) >= 0);
      Due.is("person behind it", x.did(people, what), -1);
      Due.is("person 9", x.did(9, what), -1);
    }
    for (int what = 0; what < 2; what++) {
      Due.holds("thing of the meeting", x.took(things - 1, what) != VOID);
      Due.is("thing behind it", x.took(things, what), VOID);
      Due.is("thing 5", x.took(5, what), VOID);
      Due.holds("card of the meeting", cards == 0 || x.first(cards - 1, what) != VOID);
      Due.is("card behind it", x.first(cards, what), VOID);
      Due.is("card 19", x.first(19, what), VOID);
    }
  }
}
