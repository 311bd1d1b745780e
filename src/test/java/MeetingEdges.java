import java.util.Arrays;

/** The boundary cases of promises 11 to 16: the meeting, and what is told of it. */
final class MeetingEdges {
  private static final String GREATEST = "(2048*1024*1024-1)";
  private static final String LEAST = "(2048*1024*1024)";

  private MeetingEdges() { }

  static void run() {
    orderOfOne();
    orderOfTwo();
    orderOfThree();
    orderOfSix();
    stateWithout();
    wishAboveNone();
    sixtyMinutes();
    twoHundredSayings();
    late();
    lateForAll();
    spokeLast();
    timer();
    standing();
    newAgainEmpty();
    stoppedByVoice();
    stoppedByWish();
    stoppedByFirst();
    stoppedShort();
    stoppedInARow();
    ruleFree();
    ruleByTurns();
    ruleNotYet();
    ruleStick();
    ruleChiefLast();
    rulePaper();
    toldRefused();
    decided();
    heldBack();
    wrong();
    alone();
    cost();
    shed();
    needed();
    sayingRefused();
    sayingParts();
    lastSaying();
    took();
    did();
    share();
    stopsAndTaken();
    minutesThere();
    first();
    keptAsItWas();
  }

  /** People of a wage of 1, all there from the begin, and one thing of worth 1. */
  private static SpeaksInTurn table(String law, int... rv) {
    SpeaksInTurn x = new SpeaksInTurn();
    for (int each : rv) {
      x.person(each, 100);
    }
    x.thing(1, 0);
    Due.is("law of " + law, Due.law(x, law), 1);
    return x;
  }

  private static void speak(SpeaksInTurn x, int rule, int... who) {
    x.set(0, rule);
    x.meet(0);
    for (int i = 0; i < who.length; i++) {
      Due.is("who speaks in " + i, x.saying(i, 0), who[i]);
    }
    Due.is("sayings", x.told(1), who.length);
  }

  private static void says(SpeaksInTurn x, int i, int... due) {
    Due.row("saying(" + i + ", v)", v -> x.saying(i, v), Arrays.stream(due).asLongStream().toArray());
  }

  // ---- promise 11: orders and refusals

  private static void orderOfOne() {
    SpeaksInTurn x = table("1-s", 0);
    Due.promise(11, "an order of all THINGS: of one");
    Due.refused("meet", x::meet, Due.BAD, -1, 2, 9, 10, 11, 12, 21, 100, 101);
    Due.is("none was held", x.told(0), Due.STATE);
    Due.is("meet(1)", x.meet(1), 1);
    Due.is("meet(0)", x.meet(0), 1);
  }

  private static void orderOfTwo() {
    SpeaksInTurn x = table("1-s", 0);
    x.thing(0, 0);
    Due.promise(11, "BAD (not each just once): of two");
    Due.refused("meet", x::meet, Due.BAD, -1, 1, 2, 10, 11, 13, 20, 22, 23, 31, 32, 102, 112, 120, 121, 122, 123, 210, 212,
        1012, -12, -21);
    Due.is("meet(12)", x.meet(12), 2);
    Due.is("first", x.saying(0, 1), 0);
    Due.is("meet(21)", x.meet(21), 2);
    Due.is("first", x.saying(0, 1), 1);
    Due.promise(11, "0: as they came");
    Due.is("meet(0)", x.meet(0), 2);
    Due.is("first", x.saying(0, 1), 0);
    Due.is("second", x.saying(1, 1), 1);
  }

  private static void orderOfThree() {
    SpeaksInTurn x = table("1-s", 0);
    x.thing(0, 0);
    x.thing(0, 0);
    Due.promise(11, "BAD (not each just once): one comes again behind another one");
    for (int order : new int[] {121, 131, 212, 232, 313, 323, 111, 112, 122, 12, 1232, 1231}) {
      Due.is("meet(" + order + ")", x.meet(order), Due.BAD);
    }
    for (int order : new int[] {123, 132, 213, 231, 312, 321}) {
      Due.is("meet(" + order + ")", x.meet(order), 3);
      for (int i = 0, digits = order * 10; i < 3; i++, digits = digits % 1000 * 10) {
        Due.is("thing in " + i, x.saying(i, 1), digits / 1000 - 1);
      }
    }
  }

  private static void orderOfSix() {
    SpeaksInTurn x = table("1-s", 0);
    for (int i = 0; i < 5; i++) {
      x.thing(0, 0);
    }
    Due.promise(11, "BAD (not each just once): of six");
    Due.refused("meet", x::meet, Due.BAD, -1, 1, 12345, 23456, 102345, 123450, 123455, 123457, 123451, 123426, 121212, 123123, 113456, 223456, 723456,
        1123456, 1234560, 1234567, 10123456, 1000123456, 2000123456, -123456);
    Due.is("meet(123456)", x.meet(123456), 6);
    Due.is("meet(654321)", x.meet(654321), 6);
    for (int i = 0; i < 6; i++) {
      Due.is("thing in " + i, x.saying(i, 1), 5 - i);
    }
  }

  private static void stateWithout() {
    Due.promise(11, "STATE: no PEOPLE, no THINGS");
    SpeaksInTurn x = new SpeaksInTurn();
    Due.is("of neither", x.meet(0), Due.STATE);
    x.person(0, 0);
    Due.is("no THINGS", x.meet(0), Due.STATE);
    SpeaksInTurn y = new SpeaksInTurn();
    y.thing(0, 0);
    Due.is("no PEOPLE", y.meet(0), Due.STATE);
    Due.is("no PEOPLE by an order", y.meet(1), Due.STATE);
    Due.promise(11, "of several answers BAD ahead of STATE");
    Due.refused("no PEOPLE, meet", y::meet, Due.BAD, -1, 2, 10, 11);
    Due.refused("no THINGS, meet", x::meet, Due.BAD, -1, 1, 2, 10, 11);
    Due.promise(11, "one PERSON and one THING are enough");
    y.person(0, 0);
    Due.is("meet(0)", y.meet(0), 0);
    x.thing(0, 0);
    Due.is("meet(1)", x.meet(1), 0);
  }

  // ---- promise 11: who wishes, how long it goes on

  private static void wishAboveNone() {
    Due.promise(11, "till nobody there WISHES (above 0)");
    String[] laws = {"0", "-1", LEAST, "0-(t=0)", "1-s", "2-s", "s<3"};
    int[] minutes = {0, 0, 0, 0, 1, 2, 3};
    for (int i = 0; i < laws.length; i++) {
      SpeaksInTurn x = table(laws[i], 0);
      for (int rule = 0; rule < 6; rule++) {
        x.set(0, rule);
        Due.is("meet(0) by " + laws[i] + " and rule " + rule, x.meet(0), minutes[i]);
      }
    }
    Due.promise(11, "ints that wrap: the greatest int WISHES most, the least one WISHES nothing");
    SpeaksInTurn x = table("p=0?1-s;p=1?" + GREATEST + "*(s=0);" + LEAST, 0, 0, 9);
    speak(x, 0, 1, 0);
    speak(x, 2, 1, 0);
    speak(x, 1, 0, 1);
    Due.is("who WISHES nothing stops nobody", x.saying(0, 6), Due.NOT);
  }

  private static void sixtyMinutes() {
    Due.promise(11, "or it has taken 60 MINUTES");
    String[] laws = {"t<59", "t<60", "t<61", "1", GREATEST};
    int[] minutes = {59, 60, 60, 60, 60};
    for (int i = 0; i < laws.length; i++) {
      SpeaksInTurn x = table(laws[i], 0);
      Due.is("meet(0) by " + laws[i], x.meet(0), minutes[i]);
      Due.is("took", x.took(0, 0), minutes[i]);
      Due.is("the last", x.saying(minutes[i] - 1, 2), minutes[i] - 1);
      Due.is("no more", x.saying(minutes[i], 2), Due.BAD);
    }
    Due.promise(11, "60 MINUTES a THING: the next one begins afresh");
    SpeaksInTurn x = table("1", 0);
    x.thing(0, 0);
    Due.is("meet(0)", x.meet(0), 120);
    Due.is("took", x.took(1, 0), 60);
    Due.promise(11, "till it has taken 60 MINUTES: what begins in minute 59 is said to its end");
    SpeaksInTurn y = table("t<59?!p;p", 0, 0);
    for (int c = 0; c < 10; c++) {
      y.card(0, 1, 2);
    }
    y.set(2, 9);
    Due.is("meet(0)", y.meet(0), 68);
    Due.is("took", y.took(0, 0), 68);
    Due.is("the last begins", y.saying(59, 2), 59);
    Due.is("the last is", y.saying(59, 3), 9);
    Due.is("no more", y.told(1), 60);
  }

  private static void twoHundredSayings() {
    Due.promise(11, "200 SAYINGS in all at most; then nobody speaks any more");
    int[] minutes = {60, 120, 180, 200, 200, 200};
    int[][] took = {{60}, {60, 60}, {60, 60, 60}, {60, 60, 60, 20}, {60, 60, 60, 20, 0}, {60, 60, 60, 20, 0, 0}};
    SpeaksInTurn x = new SpeaksInTurn();
    x.person(0, 100);
    Due.law(x, "1");
    for (int things = 1; things <= 6; things++) {
      x.thing(0, 0);
      Due.is("meet(0) of " + things, x.meet(0), minutes[things - 1]);
      Due.is("sayings", x.told(1), minutes[things - 1]);
      for (int t = 0; t < things; t++) {
        Due.is("took", x.took(t, 0), took[things - 1][t]);
      }
    }
    Due.is("meet(654321)", x.meet(654321), 200);
    Due.is("took", x.took(2, 0), 20);
    Due.is("took", x.took(1, 0), 0);
    Due.promise(11, "200 SAYINGS, though they take more MINUTES");
    SpeaksInTurn z = table("1", 0);
    for (int t = 0; t < 4; t++) {
      z.thing(1, 0);
      for (int c = 0; c < 5; c++) {
        z.card(t, 1, 1);
      }
    }
    Due.is("meet(0)", z.meet(0), 220);
    Due.is("sayings", z.told(1), 200);
    Due.is("55 of the first", z.saying(55, 1), 1);
    Due.is("35 of the fourth", z.took(3, 0), 40);
    Due.is("none of the fifth", z.took(4, 0), 0);
    Due.promise(11, "200 SAYINGS: not one less where one is asked for them");
    SpeaksInTurn y = table("s<e*7", 0);
    y.mend(0, 4, 8);
    y.thing(0, 8);
    y.thing(0, 8);
    y.thing(0, 4);
    Due.is("three by 56, one by 28", y.meet(0), 196);
    y.thing(0, 1);
    Due.is("and 4 of 7", y.meet(0), 200);
    Due.is("took", y.took(4, 0), 4);
  }

  private static void late() {
    Due.promise(11, "who comes LATE is there from one's MINUTE on");
    int[] sayings = {4, 4, 4, 4, 3, 3};
    for (int late = 0; late < 6; late++) {
      SpeaksInTurn x = table("p?9*!s;3-s", 0, 0);
      x.mend(1, 2, late);
      x.meet(0);
      Due.is("sayings by late " + late, x.told(1), sayings[late]);
      Due.is("who in " + late, x.saying(late, 0), late < 4 ? 1 : Due.BAD);
    }
    Due.promise(11, "LATE 0 .. 99: the last MINUTE");
    SpeaksInTurn x = table("p?9*!s;1", 0, 0);
    x.thing(0, 0);
    x.mend(1, 2, 99);
    Due.is("meet(0)", x.meet(0), 60 + 60);
    Due.is("in minute 98", x.saying(98, 0), 0);
    Due.is("in minute 99", x.saying(99, 0), 1);
    Due.is("in minute 100", x.saying(100, 0), 0);
    x = table("p?9*!s;99-t", 0, 0);
    x.mend(1, 2, 99);
    Due.is("over ahead of it", x.meet(0), 60);
    Due.is("minutes there", x.did(1, 3), 0);
  }

  private static void lateForAll() {
    SpeaksInTurn x = table("1", 0, 0);
    x.mend(0, 2, 1);
    x.mend(1, 2, 99);
    Due.promise(11, "till nobody there WISHES: nobody is there yet");
    for (int rule = 0; rule < 6; rule++) {
      x.set(0, rule);
      Due.is("meet(0) by rule " + rule, x.meet(0), 0);
      Due.is("sayings", x.told(1), 0);
    }
  }

  private static void spokeLast() {
    Due.promise(11, "l 1, if one spoke last: nobody at the begin, then on the THING ahead, too");
    SpeaksInTurn x = table("l?0;s<1", 0);
    x.thing(0, 0);
    for (int i = 0; i < 2; i++) {
      Due.is("meet(0)", x.meet(0), 1);
      Due.is("took", x.took(1, 0), 0);
    }
    x.person(0, 0);
    x.meet(0);
    Due.is("who speaks first", x.saying(0, 0), 0);
    Due.is("then another one", x.saying(1, 0), 1);
    Due.is("then who did not speak last", x.saying(2, 0), 0);
    Due.promise(11, "l is 1 and no more");
    speak(table("s=0|l=1&s=1", 0), 0, 0, 0);
  }

  // ---- promise 11 and 13: how long one speaks, what is said

  private static SpeaksInTurn withCards(int cards) {
    SpeaksInTurn x = table("1-s", 0);
    for (int c = 0; c < cards; c++) {
      x.card(0, 1, 1);
    }
    return x;
  }

  private static void timer() {
    Due.promise(13, "LONG: 1, and one's CARDS that are not said (at most TIMER in all); as many as TIMER less 1 at most");
    for (int cards = 0; cards <= 20; cards += cards < 10 ? 1 : 10) {
      SpeaksInTurn x = withCards(cards);
      for (int timer = 1; timer <= 9; timer++) {
        x.set(2, timer);
        x.meet(0);
        String call = " with " + cards + " cards by timer " + timer;
        Due.is("LONG" + call, x.saying(0, 3), Math.min(timer, 1 + cards));
        Due.is("NEW" + call, x.saying(0, 4), (1 << Math.min(timer - 1, cards)) - 1);
      }
    }
  }

  private static void standing() {
    Due.promise(13, "STANDING: 2 of 3 of that (cut up)");
    int[] due = {1, 2, 2, 3, 4, 4, 5, 6, 6};
    SpeaksInTurn x = withCards(20);
    x.set(1, 1);
    for (int timer = 1; timer <= 9; timer++) {
      x.set(2, timer);
      x.meet(0);
      Due.is("LONG by timer " + timer, x.saying(0, 3), due[timer - 1]);
      Due.is("NEW by timer " + timer, x.saying(0, 4), (1 << timer - 1) - 1);
    }
    x.set(1, 0);
    x.meet(0);
    Due.is("LONG, not standing", x.saying(0, 3), 9);
  }

  private static void newAgainEmpty() {
    SpeaksInTurn x = table("s?0;3-p", 0, 0, 0);
    x.card(0, 1, 4);
    x.card(0, 1, 2);
    x.card(0, 1, 3);
    x.card(0, 1, 1);
    x.meet(0);
    Due.promise(13, "NEW: the first not said CARDS that one knows");
    says(x, 0, 0, 0, 0, 3, 4 + 8, Due.NOT, Due.NOT);
    says(x, 1, 1, 0, 3, 2, 2, Due.NOT, Due.NOT);
    says(x, 2, 2, 0, 5, 2, 1, Due.NOT, Due.NOT);
    Due.promise(13, "without any: AGAIN, the first that one knows and that is said already, or EMPTY");
    SpeaksInTurn y = table("s>1?0;3-p", 0, 0, 0);
    y.card(0, 1, 0);
    y.card(0, 1, 3);
    y.card(0, 1, 3);
    y.set(0, 1);
    y.meet(0);
    says(y, 0, 0, 0, 0, 3, 2 + 4, Due.NOT, Due.NOT);
    says(y, 1, 1, 0, 3, 1, 0, 1, Due.NOT);
    says(y, 2, 2, 0, 4, 1, 0, Due.NOT, Due.NOT);
    says(y, 3, 0, 0, 5, 1, 0, 1, Due.NOT);
    Due.promise(13, "by a TIMER of 1 no CARD is said NEW");
    y.set(2, 1);
    y.meet(0);
    says(y, 0, 0, 0, 0, 1, 0, Due.NOT, Due.NOT);
    says(y, 3, 0, 0, 3, 1, 0, Due.NOT, Due.NOT);
    Due.promise(13, "by a TIMER of 1 what is on paper is said AGAIN");
    y.set(0, 5);
    y.meet(0);
    says(y, 0, 0, 0, 0, 1, 0, 1, Due.NOT);
    Due.promise(13, "a CARD of another THING is not said");
    SpeaksInTurn z = table("s?0;e", 0);
    z.thing(0, 1);
    z.card(0, 1, 1);
    z.meet(0);
    says(z, 0, 0, 1, 0, 1, 0, Due.NOT, Due.NOT);
  }

  // ---- promise 13: who stops whom

  private static void stoppedByVoice() {
    Due.promise(13, "STOPPED by one of a VOICE that is 3 or more above one's");
    for (int low = 0; low <= 9; low++) {
      for (int high = 0; high <= 9; high++) {
        SpeaksInTurn x = table("s?0;1+p", low, high);
        x.set(0, 1);
        x.meet(0);
        Due.is("VOICE " + low + " by " + high, x.saying(0, 6), high >= low + 3 ? 1 : Due.NOT);
      }
    }
  }

  private static void stoppedByWish() {
    Due.promise(13, "STOPPED by one who WISHES more than one");
    String[] laws = {"s?0;5", "s?0;5+p", "s?0;5-p", "s?0;5-9*p"};
    int[] by = {Due.NOT, 1, Due.NOT, Due.NOT};
    for (int i = 0; i < laws.length; i++) {
      SpeaksInTurn x = table(laws[i], 0, 9);
      x.set(0, 1);
      x.meet(0);
      Due.is("by " + laws[i], x.saying(0, 6), by[i]);
    }
    Due.promise(13, "STOPPED by another one there");
    SpeaksInTurn x = table("s>1?0;1+9*p", 0, 9);
    x.mend(1, 2, 1);
    x.set(0, 1);
    x.meet(0);
    Due.is("who is not there yet stops nobody", x.saying(0, 6), Due.NOT);
    says(x, 1, 1, 0, 1, 1, 0, Due.NOT, Due.NOT);
    says(x, 2, 0, 0, 2, 1, 0, Due.NOT, 1);
  }

  private static void stoppedByFirst() {
    Due.promise(13, "the first such");
    int[][] voices = {{0, 3, 9}, {0, 9, 3}, {0, 2, 9}, {0, 2, 2}, {9, 0, 3}};
    int[] speaker = {0, 0, 0, 0, 1};
    int[] by = {1, 1, 2, Due.NOT, 2};
    for (int i = 0; i < voices.length; i++) {
      SpeaksInTurn x = table("s?0;1+p*p", voices[i]);
      x.set(0, 1);
      x.meet(0);
      Due.is("in " + i, x.saying(speaker[i], 6), by[i]);
    }
    Due.promise(13, "the first such: ahead of one in the order of PEOPLE, too");
    SpeaksInTurn x = table("s?0;p?1;9", 99, 0, 99);
    x.set(0, 4);
    x.meet(0);
    Due.is("ahead of the chief speaks", x.saying(0, 0), 1);
    Due.is("whom the chief stops", x.saying(0, 6), 0);
  }

  private static void stoppedShort() {
    Due.promise(13, "STOPPED: LONG is 1 and only the first such CARD is said");
    for (int timer = 2; timer <= 9; timer++) {
      for (int standing = 0; standing < 2; standing++) {
        SpeaksInTurn x = table("s?0;1+p", 0, 9);
        x.card(0, 1, 0);
        x.card(0, 1, 1);
        x.card(0, 1, 1);
        x.set(0, 1);
        x.set(1, standing);
        x.set(2, timer);
        x.meet(0);
        says(x, 0, 0, 0, 0, 1, 2, Due.NOT, 1);
        Due.is("held back", x.told(3), 4);
        Due.is("the next begins", x.saying(1, 2), 1);
      }
    }
    Due.promise(13, "STOPPED without CARDS: EMPTY in 1 MINUTE");
    SpeaksInTurn x = table("s?0;1+p", 0, 9);
    x.set(0, 1);
    x.meet(0);
    says(x, 0, 0, 0, 0, 1, 0, Due.NOT, 1);
  }

  private static void stoppedInARow() {
    Due.promise(13, "nobody is STOPPED twice in a row by one");
    SpeaksInTurn x = table("p?9;5-s", 0, 9);
    x.set(0, 1);
    x.meet(0);
    Due.is("0 speaks first", x.saying(0, 6), 1);
    Due.is("0 speaks again", x.saying(2, 6), Due.NOT);
    Due.promise(13, "twice in a row by one: another one may");
    SpeaksInTurn y = table("p?9;5-s", 0, 9, 3);
    y.set(0, 1);
    y.meet(0);
    Due.is("0 speaks first", y.saying(0, 6), 1);
    Due.is("0 speaks again", y.saying(3, 6), 2);
    Due.is("and again", y.saying(6, 6), 1);
    Due.promise(13, "twice in a row by one: one may stop two");
    SpeaksInTurn z = table("p>1?9;s?0;5", 0, 0, 3);
    z.set(0, 1);
    z.meet(0);
    Due.is("0", z.saying(0, 6), 2);
    Due.is("1", z.saying(1, 6), 2);
    Due.promise(15, "STOPS: how often one stopped another one");
    Due.is("did(2, 1)", z.did(2, 1), 2);
    Due.is("did(0, 1)", z.did(0, 1), 0);
    Due.law(z, "p>1?9;s<2");
    z.meet(0);
    Due.promise(13, "twice in a row by one: neither of two");
    int[] by = {2, 2, Due.NOT, Due.NOT, Due.NOT, Due.NOT};
    for (int i = 0; i < by.length; i++) {
      Due.is("saying(" + i + ", 6)", z.saying(i, 6), by[i]);
    }
    Due.promise(13, "nobody is STOPPED twice in a row by one: a new MEETING begins anew");
    z.meet(0);
    Due.is("0", z.saying(0, 6), 2);
    Due.is("1", z.saying(1, 6), 2);
  }

  // ---- promise 11: the rules

  private static void ruleFree() {
    Due.promise(11, "rule 0: who WISHES most, of like ones the first");
    speak(table("s?0;1", 0, 0, 0), 0, 0, 1, 2);
    speak(table("s?0;1+p", 0, 0, 0), 0, 2, 1, 0);
    speak(table("s?0;1+(p>0)", 0, 0, 0), 0, 1, 2, 0);
    speak(table("s?0;p<2", 0, 0, 0), 0, 0, 1);
  }

  private static void ruleByTurns() {
    Due.promise(11, "rule 1: from the one behind who spoke last (PERSON 0 first)");
    speak(table("s<2", 0, 0, 0), 1, 0, 1, 2, 0, 1, 2);
    speak(table("s<2", 0), 1, 0, 0);
    speak(table("p&s<2", 0, 0, 0), 1, 1, 2, 1, 2);
    speak(table("p=2&s<2", 0, 0, 0), 1, 2, 2);
    Due.promise(11, "rule 1: behind who spoke last on the THING ahead");
    SpeaksInTurn x = table("s=0&p<2", 0, 0, 0);
    x.thing(0, 0);
    speak(x, 1, 0, 1, 0, 1);
    SpeaksInTurn y = table("s=0&(p=0|e)", 0, 0, 0);
    y.thing(0, 1);
    speak(y, 1, 0, 1, 2, 0);
    Due.promise(11, "rule 1: who is there");
    SpeaksInTurn z = table("s<2", 0, 0);
    z.mend(0, 2, 1);
    speak(z, 1, 1, 0, 1, 0);
    z.mend(1, 2, 1);
    speak(z, 1);
  }

  private static void ruleNotYet() {
    Due.promise(11, "rule 2: the one who has spoken least on it, then who WISHES most, then the first");
    speak(table("s<2", 0, 0, 0), 2, 0, 1, 2, 0, 1, 2);
    speak(table("(s<2)*(p+1)", 0, 0, 0), 2, 2, 1, 0, 2, 1, 0);
    speak(table("(s<2)*(1+(p>0))", 0, 0, 0), 2, 1, 2, 0, 1, 2, 0);
    speak(table("s<p+1", 0, 0), 2, 0, 1, 1);
    Due.promise(11, "rule 2: spoken on it, not on the THING ahead");
    SpeaksInTurn x = table("s=0&(p=0|e)", 0, 0);
    x.thing(0, 1);
    speak(x, 2, 0, 0, 1);
  }

  private static void ruleStick() {
    Due.promise(11, "rule 3: who spoke last goes on while one WISHES, else as by 1");
    speak(table("s<2", 0, 0, 0), 3, 0, 0, 1, 1, 2, 2);
    speak(table("s<2-p", 0, 0, 0), 3, 0, 0, 1);
    speak(table("p=1?s<3;s<1", 0, 0, 0), 3, 0, 1, 1, 1, 2);
    Due.promise(11, "rule 3: who spoke last on the THING ahead goes on");
    SpeaksInTurn x = table("s=0", 0, 0);
    x.thing(0, 0);
    speak(x, 3, 0, 1, 1, 0);
  }

  private static void ruleChiefLast() {
    Due.promise(11, "rule 4: one of the greatest RANK there only if nobody else WISHES");
    speak(table("(s<2)*(r+1)", 90, 0, 80), 4, 2, 2, 1, 1, 0, 0);
    speak(table("s<1", 90, 90, 0), 4, 2, 0, 1);
    Due.promise(11, "rule 4: all are of the greatest RANK");
    speak(table("s<1", 0, 0, 0), 4, 0, 1, 2);
    speak(table("s<1", 90), 4, 0);
    Due.promise(11, "rule 4: the greatest RANK of those there");
    SpeaksInTurn x = table("(s<2)*(r+1)", 90, 20, 10);
    x.mend(0, 2, 2);
    speak(x, 4, 2, 2, 1, 1, 0, 0);
    x.mend(0, 2, 3);
    speak(x, 4, 2, 2, 1, 1, 0, 0);
    x.mend(0, 2, 4);
    speak(x, 4, 2, 2, 1, 1, 0, 0);
    x.mend(0, 2, 5);
    speak(x, 4, 2, 2, 1, 1);
    x = table("t=1?1+9*r;p=2", 20, 10, 20, 90);
    x.mend(3, 2, 1);
    x.set(0, 4);
    x.meet(0);
    Due.is("one of RANK 2 is no chief once RANK 9 is there", x.saying(1, 0), 0);
    x.mend(3, 2, 99);
    x.meet(0);
    Due.is("but is one before", x.saying(1, 0), 1);
    Due.promise(11, "rule 4: one of the greatest RANK who WISHES nothing is the chief, too");
    speak(table("p=0?0;(s<1)*(r+1)", 90, 20, 80), 4, 2, 1);
  }

  private static void rulePaper() {
    SpeaksInTurn x = table("0", 0, 0, 0);
    x.mend(1, 2, 1);
    x.mend(2, 2, 99);
    x.card(0, 1, 0);
    x.card(0, 1, 1);
    x.card(0, 1, 2);
    x.card(0, 1, 3);
    x.card(0, 1, 8);
    Due.promise(11, "rule 5: each CARD known to anybody there is said, in no time");
    x.set(0, 5);
    Due.is("meet(0)", x.meet(0), 0);
    Due.row("first(v, 0)", v -> x.first(v, 0), Due.NOT, -1, Due.NOT, -1, Due.NOT);
    Due.is("sayings", x.told(1), 0);
    x.set(0, 0);
    x.meet(0);
    Due.is("by no other rule", x.first(1, 0), Due.NOT);
    Due.promise(11, "rule 5: as a THING begins, who comes in that MINUTE is there");
    SpeaksInTurn y = table("e?0;p=0&s<2", 0, 0, 0);
    y.thing(0, 1);
    y.card(1, 1, 2);
    y.card(1, 1, 4);
    y.mend(1, 2, 2);
    y.mend(2, 2, 3);
    y.set(0, 5);
    Due.is("meet(0)", y.meet(0), 2);
    Due.is("there in minute 2", y.first(0, 0), -1);
    Due.is("not there yet", y.first(1, 0), Due.NOT);
    Due.promise(11, "rule 5: then as 0");
    speak(table("s?0;1+(p>0)", 0, 0, 0), 5, 1, 2, 0);
  }

  // ---- promise 12

  private static void toldRefused() {
    SpeaksInTurn x = new SpeaksInTurn();
    Due.promise(12, "BAD: what 0 .. 9; of several answers ahead of STATE");
    Due.refused("told", x::told, Due.BAD, -1, 10);
    Due.promise(12, "STATE: there is none");
    for (int what = 0; what < 10; what++) {
      Due.is("told(" + what + ")", x.told(what), Due.STATE);
    }
    x.meet(0);
    Due.is("told(0) behind a refused meeting", x.told(0), Due.STATE);
    x.person(0, 0);
    x.thing(0, 0);
    x.meet(11);
    x.rule(0);
    x.order(0);
    x.times(0);
    Due.is("told(0) behind thoughts", x.told(0), Due.STATE);
    x.meet(0);
    Due.promise(12, "a MEETING in which nobody spoke is one");
    Due.row("told", x::told, 0, 0, 0, 0, 0, 0, 0, 0, 0, 0);
    Due.refused("told", x::told, Due.BAD, -1, 10);
  }

  private static void decided() {
    Due.promise(12, "DECIDED: above 0 yes");
    SpeaksInTurn x = new SpeaksInTurn();
    int[] worth = {-99, -1, 0, 1, 99, 2};
    x.person(0, 0);
    for (int w : worth) {
      x.thing(w, 0);
    }
    Due.law(x, "n");
    x.meet(0);
    Due.is("DECIDED", x.told(2), 8 + 16 + 32);
    x.card(1, 1, 1);
    x.card(2, 1, 1);
    x.card(3, -1, 1);
    x.card(5, -1, 1);
    x.meet(0);
    Due.is("DECIDED by 0, 1, 0, 1", x.told(2), 4 + 16 + 32);
    Due.row("took(v, 1)", v -> x.took(v, 1), -99, 0, 1, 0, 99, 1);
    Due.promise(12, "DECIDED: by its SAID CARDS alone");
    x.set(2, 1);
    x.meet(0);
    Due.is("DECIDED", x.told(2), 8 + 16 + 32);
    Due.row("took(v, 1)", v -> x.took(v, 1), worth[0], worth[1], worth[2], worth[3], worth[4], worth[5]);
  }

  private static void heldBack() {
    Due.promise(12, "HELD BACK: CARDS never SAID, known to somebody there at the end");
    for (int late = 0; late <= 4; late++) {
      SpeaksInTurn x = table("!p&s<3", 0, 0);
      x.card(0, 1, 2);
      x.card(0, 1, 3);
      x.card(0, 1, 0);
      x.card(0, 1, 4);
      x.mend(1, 2, late);
      Due.is("meet(0)", x.meet(0), 4);
      Due.is("late " + late + " and the end 4", x.told(3), 1);
      x.mend(1, 2, 5);
      x.meet(0);
      Due.is("late 5 and the end 4", x.told(3), 0);
    }
    Due.promise(12, "HELD BACK: the last bit");
    SpeaksInTurn x = withCards(20);
    x.set(2, 1);
    x.meet(0);
    Due.is("all 20", x.told(3), (1 << 20) - 1);
    x.set(2, 9);
    x.meet(0);
    Due.is("all but 8", x.told(3), (1 << 20) - (1 << 8));
  }

  private static void wrong() {
    Due.promise(12, "WRONG: decided otherwise than all CARDS known to anybody at all would");
    int[] counts = {-2, -1, 0, 1};
    int[] due = {1, 1, 0, 0};
    for (int i = 0; i < 4; i++) {
      SpeaksInTurn x = table("0", 0, 99);
      x.card(0, counts[i], 2);
      x.mend(1, 2, 99);
      x.meet(0);
      Due.is("worth 1 and " + counts[i], x.told(4), due[i]);
      x.mend(0, 3, 0);
      x.meet(0);
      Due.is("worth 0 and " + counts[i], x.told(4), counts[i] > 0 ? 1 : 0);
    }
    Due.promise(12, "WRONG: a CARD that nobody knows counts for nothing");
    SpeaksInTurn x = table("0", 0);
    x.card(0, -9, 0);
    x.card(0, -9, 1022);
    x.meet(0);
    Due.is("told(4)", x.told(4), 0);
    Due.promise(12, "WRONG: bits, of no, one and all THINGS");
    SpeaksInTurn y = new SpeaksInTurn();
    y.person(0, 0);
    Due.law(y, "0");
    for (int t = 0; t < 6; t++) {
      y.thing(1, 0);
      y.card(t, -1, 1);
      y.meet(0);
      Due.is("told(4)", y.told(4), (2 << t) - 1);
    }
    y.set(0, 5);
    y.meet(0);
    Due.is("all on paper", y.told(4), 0);
  }

  private static void alone() {
    SpeaksInTurn x = table("n*!p", 0, 0);
    Due.promise(12, "ALONE: CARDS that just one knows: there are none");
    x.meet(0);
    Due.is("SAID", x.told(5), 0);
    Due.is("of", x.told(6), 0);
    Due.promise(12, "ALONE: not what none and two know");
    x.card(0, 1, 0);
    x.card(0, 1, 3);
    x.meet(0);
    Due.is("SAID", x.told(5), 0);
    Due.is("of", x.told(6), 0);
    Due.promise(12, "ALONE: how many were SAID, of how many");
    x.card(0, 1, 2);
    x.meet(0);
    Due.is("SAID", x.told(5), 0);
    Due.is("of", x.told(6), 1);
    x.card(0, 1, 1);
    x.meet(0);
    Due.is("SAID", x.told(5), 1);
    Due.is("of", x.told(6), 2);
    Due.promise(12, "ALONE: who is no PERSON knows nothing");
    SpeaksInTurn z = table("n", 0, 0);
    z.card(0, 1, 1 + 4);
    z.card(0, 1, 2 + 4 + 512);
    z.card(0, 1, 3 + 8);
    z.card(0, 1, 4);
    z.meet(0);
    Due.is("SAID", z.told(5), 2);
    Due.is("of", z.told(6), 2);
    z.person(0, 99);
    z.meet(0);
    Due.is("SAID of three PEOPLE", z.told(5), 0);
    Due.is("of, of three PEOPLE", z.told(6), 1);
    Due.promise(12, "ALONE: all of 20");
    SpeaksInTurn y = withCards(20);
    y.set(2, 9);
    y.meet(0);
    Due.is("SAID", y.told(5), 8);
    Due.is("of", y.told(6), 20);
    y.set(0, 5);
    y.meet(0);
    Due.is("SAID on paper", y.told(5), 20);
  }

  private static void cost() {
    Due.promise(12, "COST: of each who was there, WAGE times MINUTES there");
    for (int late = 0; late <= 99; late += late < 6 ? 1 : 93) {
      SpeaksInTurn x = new SpeaksInTurn();
      x.person(0, 200);
      x.person(0, 9900 + late);
      x.thing(1, 0);
      Due.law(x, "!p&s<5");
      x.meet(0);
      Due.is("late " + late, x.told(7), 5 * 2 + 99 * Math.max(0, 5 - late));
    }
    Due.promise(12, "COST: the greatest");
    SpeaksInTurn x = new SpeaksInTurn();
    for (int p = 0; p < 10; p++) {
      x.person(0, 9900);
    }
    for (int t = 0; t < 6; t++) {
      x.thing(1, 0);
    }
    Due.law(x, "1");
    x.meet(0);
    Due.is("told(7)", x.told(7), 200 * 99 * 10);
  }

  private static void shed() {
    Due.promise(12, "SHED: by its WORTH's size and 1: -99, 0, 99");
    shed(0, new int[] {0, 99, -99}, 1, 1, 1);
    shed(1, new int[] {99, 0, -99}, 1, 1, 1);
    shed(0, new int[] {99, -99, 99}, 1, 1, 1);
    shed(1, new int[] {99, -98, 98}, 60, 60, 60);
    shed(2, new int[] {-98, 99, 97}, 60, 60, 60);
    shed(1, new int[] {0, 1}, 3, 7);
    shed(0, new int[] {0, 1}, 3, 5);
    Due.promise(12, "SHED: of like ones the first");
    shed(0, new int[] {0, 1}, 3, 6);
    shed(0, new int[] {1, 0}, 6, 3);
    shed(0, new int[] {5, 5, -5}, 4, 4, 4);
    shed(0, new int[] {0, 0}, 0, 0);
    shed(1, new int[] {0, 9, 9}, 0, 1, 1);
    Due.promise(12, "SHED: 1000 MINUTES by it, cut");
    shed(0, new int[] {98, 97}, 1, 1);
    shed(0, new int[] {99, 90}, 1, 1);
    shed(1, new int[] {99, 89}, 1, 1);
  }

  /** Things that take so many minutes each, by a law that tells them by their EASY. */
  private static void shed(int due, int[] worth, int... minutes) {
    SpeaksInTurn x = new SpeaksInTurn();
    x.person(0, 0);
    StringBuilder law = new StringBuilder();
    for (int t = 0; t < worth.length; t++) {
      x.thing(worth[t], t);
      law.append(t == 0 ? "" : ";").append("e=").append(t).append("?s<").append(minutes[t]);
    }
    Due.law(x, law.toString());
    x.meet(0);
    for (int t = 0; t < worth.length; t++) {
      Due.is("took", x.took(t, 0), minutes[t]);
    }
    Due.is("SHED of " + law + " worth " + worth[0] + " ..", x.told(8), due);
  }

  private static void needed() {
    Due.promise(12, "NEEDED: nobody, some, all");
    SpeaksInTurn x = new SpeaksInTurn();
    for (int p = 0; p < 10; p++) {
      x.person(0, 0);
    }
    Due.law(x, "n");
    x.thing(0, 0);
    x.meet(0);
    Due.is("nobody", x.told(9), 0);
    x.card(0, 1, 512);
    x.meet(0);
    Due.is("the last one", x.told(9), 512);
    x.card(0, 1, 1);
    x.meet(0);
    Due.is("one of two is enough", x.told(9), 0);
    x.mend(0, 3, -1);
    x.meet(0);
    Due.is("both are needed", x.told(9), 513);
    x.mend(0, 3, -9);
    for (int p = 1; p < 9; p++) {
      x.card(0, 1, 1 << p);
    }
    x.meet(0);
    Due.is("all", x.told(9), 1023);
    Due.promise(12, "NEEDED: some THING would be decided otherwise: by 0 and 1");
    x.mend(0, 3, -10);
    x.meet(0);
    Due.is("0 is no, without any", x.told(9), 0);
    x.mend(0, 3, -8);
    x.meet(0);
    Due.is("2 is yes, 1 is too", x.told(9), 0);
    Due.promise(12, "NEEDED: never there, on paper, too");
    x.mend(0, 3, -9);
    x.set(0, 5);
    Due.law(x, "0");
    x.meet(0);
    Due.is("all", x.told(9), 1023);
    Due.promise(12, "NEEDED: never there: one who comes too late is not");
    x.mend(4, 2, 1);
    x.meet(0);
    Due.is("0 is no, without any", x.told(9), 0);
    x.mend(0, 3, -8);
    x.meet(0);
    Due.is("all but that one", x.told(9), 1023 - 16);
    Due.promise(12, "NEEDED: not who SAID what another one knows, too");
    SpeaksInTurn z = table("n", 0, 0);
    z.card(0, -1, 3);
    z.meet(0);
    Due.is("who SAID it", z.first(0, 0), 0);
    Due.is("nobody", z.told(9), 0);
    Due.promise(12, "NEEDED: by the order, the RULE and the TIMER of THE MEETING");
    neededAsHeld();
    Due.promise(12, "NEEDED: the only PERSON");
    SpeaksInTurn y = table("n", 0);
    y.card(0, -1, 1);
    y.meet(0);
    Due.is("one who turns it", y.told(9), 1);
    y.mend(0, 3, 2);
    y.meet(0);
    Due.is("one who does not", y.told(9), 0);
  }

  private static void neededAsHeld() {
    SpeaksInTurn x = new SpeaksInTurn();
    x.person(0, 0);
    x.person(0, 2);
    x.person(0, 0);
    x.thing(1, 0);
    x.thing(1, 2);
    x.card(0, -1, 2);
    Due.law(x, "p=1?n;p?0;s<e");
    x.meet(12);
    Due.is("1 is not there for the first THING", x.told(9), 0);
    x.meet(21);
    Due.is("1 is there for it behind the second, as long as 0 speaks on that", x.told(9), 3);
    x.set(2, 1);
    x.meet(21);
    Due.is("by a TIMER of 1 it is not said", x.told(9), 0);
    x.mend(1, 2, 0);
    x.set(0, 5);
    x.meet(12);
    Due.is("by a TIMER of 1 it is on paper", x.told(9), 2);
    SpeaksInTurn y = table("2-s-2*p", 0, 0);
    y.card(0, -1, 2);
    y.meet(0);
    Due.is("who WISHES nothing", y.told(9), 0);
    y.set(0, 5);
    y.meet(0);
    Due.is("by rule 5", y.told(9), 2);
    SpeaksInTurn z = table("p?9-s-t;0", 0, 0);
    for (int c = 0; c < 8; c++) {
      z.card(0, c < 7 ? 0 : -1, 2);
    }
    z.set(2, 3);
    z.meet(0);
    Due.is("by a TIMER of 3 not all is said", z.told(9), 0);
    z.set(2, 9);
    z.meet(0);
    Due.is("by a TIMER of 9 all is", z.told(9), 2);
  }

  // ---- promise 13

  private static void sayingRefused() {
    SpeaksInTurn x = new SpeaksInTurn();
    Due.promise(13, "BAD what, then STATE, then BAD i");
    Due.refused("saying(0, v)", v -> x.saying(0, v), Due.BAD, -1, 7);
    Due.refused("saying(-1, v)", v -> x.saying(-1, v), Due.BAD, -1, 7);
    for (int w = 0; w < 7; w++) {
      int what = w;
      Due.refused("saying(v, " + w + ")", v -> x.saying(v, what), Due.STATE, -1, 0, 1, 199, 200);
    }
    x.person(0, 0);
    x.thing(0, 0);
    x.meet(0);
    Due.promise(13, "BAD i: a MEETING without SAYINGS");
    Due.refused("saying(v, 0)", v -> x.saying(v, 0), Due.BAD, -1, 0, 1);
    Due.refused("saying(0, v)", v -> x.saying(0, v), Due.BAD, -1, 7);
    Due.law(x, "s<2");
    x.meet(0);
    Due.promise(13, "BAD i: behind the last SAYING");
    for (int w = 0; w < 7; w++) {
      int what = w;
      Due.refused("saying(v, " + w + ")", v -> x.saying(v, what), Due.BAD, -1, 2, 3, 199, 200);
      Due.holds("saying(1, " + w + ") is there", x.saying(1, w) != Due.BAD);
    }
    Due.refused("saying(1, v)", v -> x.saying(1, v), Due.BAD, -1, 7);
    Due.law(x, "s<1");
    x.meet(0);
    Due.is("a SAYING of the former MEETING", x.saying(1, 0), Due.BAD);
  }

  private static void sayingParts() {
    SpeaksInTurn x = table("s?0;1+9*p", 0, 0);
    x.card(0, 1, 3);
    x.thing(0, 0);
    x.set(0, 1);
    x.meet(0);
    Due.promise(13, "5 the CARD said AGAIN (NOT), 6 by whom it was STOPPED (NOT)");
    says(x, 0, 0, 0, 0, 2, 1, Due.NOT, Due.NOT);
    says(x, 1, 1, 0, 2, 1, 0, 0, Due.NOT);
    says(x, 2, 0, 1, 3, 1, 0, Due.NOT, Due.NOT);
    x.mend(1, 1, 3);
    x.meet(0);
    says(x, 0, 0, 0, 0, 1, 1, Due.NOT, 1);
  }

  private static void lastSaying() {
    SpeaksInTurn x = table("e=3&t=19?2*p;!p", 0, 0);
    for (int t = 1; t < 6; t++) {
      x.thing(1, t);
    }
    x.card(3, 5, 2);
    x.card(4, 5, 1);
    Due.promise(13, "the last of 200 SAYINGS");
    Due.is("meet(0)", x.meet(0), 201);
    says(x, 199, 1, 3, 199, 2, 1, Due.NOT, Due.NOT);
    Due.is("saying(200, 0)", x.saying(200, 0), Due.BAD);
    Due.promise(16, "in which SAYING: the last of 200, and none behind it");
    Due.is("first(0, 0)", x.first(0, 0), 1);
    Due.is("first(0, 1)", x.first(0, 1), 199);
    Due.is("first(1, 0)", x.first(1, 0), Due.NOT);
    Due.is("first(1, 1)", x.first(1, 1), Due.NOT);
  }

  // ---- promises 14 to 16

  private static void took() {
    SpeaksInTurn x = new SpeaksInTurn();
    Due.promise(14, "VOID: there is none");
    Due.is("took(0, 0) of nothing", x.took(0, 0), Due.VOID);
    x.person(0, 0);
    x.thing(-7, 0);
    x.thing(5, 0);
    Due.is("took(0, 0)", x.took(0, 0), Due.VOID);
    Due.is("took(0, 1)", x.took(0, 1), Due.VOID);
    Due.law(x, "s<2");
    x.meet(0);
    Due.promise(14, "VOID: no such THING");
    Due.refused("took(v, 0)", v -> x.took(v, 0), Due.VOID, -1, 2, 5, 6);
    Due.refused("took(v, 1)", v -> x.took(v, 1), Due.VOID, -1, 2, 5, 6);
    Due.promise(14, "VOID: no such what");
    Due.refused("took(0, v)", v -> x.took(0, v), Due.VOID, -1, 2);
    Due.promise(14, "what it comes to below 0 is no refusal");
    Due.row("took(v, 0)", v -> x.took(v, 0), 2, 2);
    Due.row("took(v, 1)", v -> x.took(v, 1), -7, 5);
    Due.promise(14, "the THINGS of THE MEETING: one that came behind it is none");
    x.thing(0, 0);
    Due.is("took(2, 0)", x.took(2, 0), Due.VOID);
    x.meet(0);
    Due.is("took(2, 0)", x.took(2, 0), 2);
    Due.promise(14, "what it comes to: the least and the greatest");
    SpeaksInTurn y = new SpeaksInTurn();
    y.person(0, 0);
    y.thing(-99, 0);
    y.thing(99, 0);
    for (int c = 0; c < 20; c++) {
      y.card(c % 2, c % 2 == 0 ? -9 : 9, 1);
    }
    y.set(0, 5);
    y.meet(0);
    Due.row("took(v, 1)", v -> y.took(v, 1), -189, 189);
    Due.promise(14, "MINUTES of a THING: none where nobody speaks");
    Due.law(y, "0");
    y.meet(0);
    Due.row("took(v, 0)", v -> y.took(v, 0), 0, 0);
  }

  private static void did() {
    SpeaksInTurn x = new SpeaksInTurn();
    Due.promise(15, "BAD what, then STATE, then BAD PERSON");
    Due.refused("did(0, v)", v -> x.did(0, v), Due.BAD, -1, 4);
    Due.refused("did(-1, v)", v -> x.did(-1, v), Due.BAD, -1, 4);
    for (int w = 0; w < 4; w++) {
      int what = w;
      Due.refused("did(v, " + w + ")", v -> x.did(v, what), Due.STATE, -1, 0, 10);
    }
    x.person(0, 0);
    x.person(0, 0);
    x.thing(0, 0);
    Due.is("did(0, 0)", x.did(0, 0), Due.STATE);
    Due.law(x, "s<2");
    x.meet(0);
    for (int w = 0; w < 4; w++) {
      int what = w;
      Due.refused("did(v, " + w + ")", v -> x.did(v, what), Due.BAD, -1, 2, 9, 10);
      Due.holds("did(1, " + w + ") is there", x.did(1, w) >= 0);
    }
    Due.refused("did(0, v)", v -> x.did(0, v), Due.BAD, -1, 4);
    Due.promise(15, "the PEOPLE of THE MEETING: one who came behind it is none");
    x.person(0, 0);
    Due.is("did(2, 0)", x.did(2, 0), Due.BAD);
    x.meet(0);
    Due.is("did(2, 0)", x.did(2, 0), 333);
  }

  private static void share() {
    Due.promise(15, "SHARE: thousandths (cut) of all MINUTES");
    SpeaksInTurn x = table("s<p", 0, 0, 0);
    x.meet(0);
    Due.row("did(v, 0)", v -> x.did(v, 0), 0, 333, 666);
    x.mend(2, 2, 1);
    x.meet(0);
    Due.promise(15, "SHARE: of all MINUTES, not of those there");
    Due.row("did(v, 0)", v -> x.did(v, 0), 0, 333, 666);
    Due.row("did(v, 3)", v -> x.did(v, 3), 3, 3, 2);
    Due.promise(15, "SHARE: all of them");
    SpeaksInTurn z = table("s<7", 0);
    z.meet(0);
    Due.is("did(0, 0)", z.did(0, 0), 1000);
    Due.promise(15, "SHARE of no MINUTES");
    Due.law(z, "0");
    z.meet(0);
    Due.is("did(0, 0)", z.did(0, 0), 0);
    Due.promise(15, "SHARE: 1 MINUTE of 200");
    SpeaksInTurn w = new SpeaksInTurn();
    w.person(0, 0);
    w.person(0, 0);
    for (int t = 0; t < 6; t++) {
      w.thing(0, t);
    }
    Due.law(w, "e=0&t=0?2*p;!p");
    Due.is("meet(0)", w.meet(0), 200);
    Due.row("did(v, 0)", v -> w.did(v, 0), 995, 5);
  }

  private static void stopsAndTaken() {
    Due.promise(15, "TAKEN: how often one said AGAIN what another one had said first");
    SpeaksInTurn x = table("3-s", 0, 0, 0);
    x.card(0, 1, 3);
    x.set(0, 1);
    x.meet(0);
    Due.is("one's own", x.did(0, 2), 0);
    Due.is("another one's", x.did(1, 2), 3);
    Due.is("who knows none", x.did(2, 2), 0);
    Due.promise(15, "TAKEN: any CARD, said first by any other one");
    SpeaksInTurn y = table("s<1+(p=2)", 0, 0, 0);
    y.card(0, 1, 1);
    y.card(0, 1, 6);
    y.set(0, 1);
    y.meet(0);
    says(y, 1, 1, 0, 2, 2, 2, Due.NOT, Due.NOT);
    says(y, 2, 2, 0, 4, 1, 0, 1, Due.NOT);
    Due.row("did(v, 2)", v -> y.did(v, 2), 0, 0, 2);
    Due.promise(15, "TAKEN, STOPS, SHARE of one MEETING alone");
    y.mend(2, 1, 3);
    Due.law(y, "s<1+(p=2)?1+p;0");
    for (int i = 0; i < 2; i++) {
      y.meet(0);
      Due.row("did(v, 0)", v -> y.did(v, 0), 250, 250, 500);
      Due.row("did(v, 1)", v -> y.did(v, 1), 0, 0, 2);
      Due.row("did(v, 2)", v -> y.did(v, 2), 0, 0, 2);
    }
    Due.law(y, "0");
    y.meet(0);
    for (int w = 0; w < 3; w++) {
      int what = w;
      Due.row("did(v, " + w + ") of nobody", v -> y.did(v, what), 0, 0, 0);
    }
    Due.promise(15, "TAKEN: what was on paper nobody had said first");
    x.set(0, 5);
    x.meet(0);
    Due.row("did(v, 2)", v -> x.did(v, 2), 0, 0, 0);
    Due.promise(15, "STOPS: nobody did");
    Due.row("did(v, 1)", v -> x.did(v, 1), 0, 0, 0);
  }

  private static void minutesThere() {
    Due.promise(15, "MINUTES there: of one who comes ahead of the end, at it, behind it");
    int[] due = {5, 4, 1, 0, 0, 0};
    int[] late = {0, 1, 4, 5, 6, 99};
    SpeaksInTurn x = new SpeaksInTurn();
    for (int l : late) {
      x.person(0, l);
    }
    x.thing(0, 0);
    Due.law(x, "!p&s<5");
    Due.is("meet(0)", x.meet(0), 5);
    for (int p = 0; p < 6; p++) {
      Due.is("late " + late[p], x.did(p, 3), due[p]);
    }
    Due.promise(15, "MINUTES there: none in all");
    Due.law(x, "0");
    x.meet(0);
    Due.row("did(v, 3)", v -> x.did(v, 3), 0, 0, 0, 0, 0, 0);
  }

  private static void first() {
    SpeaksInTurn x = new SpeaksInTurn();
    Due.promise(16, "VOID: there is none");
    Due.is("first(0, 0) of nothing", x.first(0, 0), Due.VOID);
    x.person(0, 0);
    x.person(0, 0);
    x.thing(0, 0);
    x.card(0, 1, 1);
    x.card(0, 1, 0);
    Due.is("first(0, 0)", x.first(0, 0), Due.VOID);
    Due.is("first(0, 1)", x.first(0, 1), Due.VOID);
    Due.law(x, "n");
    x.meet(0);
    Due.promise(16, "VOID: no such CARD");
    Due.refused("first(v, 0)", v -> x.first(v, 0), Due.VOID, -1, 2, 19, 20);
    Due.refused("first(v, 1)", v -> x.first(v, 1), Due.VOID, -1, 2, 19, 20);
    Due.promise(16, "VOID: no such what");
    Due.refused("first(0, v)", v -> x.first(0, v), Due.VOID, -1, 2);
    Due.promise(16, "who SAID it: PERSON 0 in SAYING 0; NOT: nobody");
    Due.row("first(v, 0)", v -> x.first(v, 0), 0, Due.NOT);
    Due.row("first(v, 1)", v -> x.first(v, 1), 0, Due.NOT);
    Due.promise(16, "-1: it was on paper");
    x.set(0, 5);
    x.meet(0);
    Due.row("first(v, 0)", v -> x.first(v, 0), -1, Due.NOT);
    Due.row("first(v, 1)", v -> x.first(v, 1), -1, Due.NOT);
    Due.promise(16, "the CARDS of THE MEETING: one that came behind it is none");
    x.card(0, 1, 2);
    Due.is("first(2, 0)", x.first(2, 0), Due.VOID);
    Due.is("first(2, 1)", x.first(2, 1), Due.VOID);
    x.set(0, 0);
    x.meet(0);
    Due.is("first(2, 0)", x.first(2, 0), 1);
    Due.is("first(2, 1)", x.first(2, 1), 1);
    Due.promise(16, "NOT: a MEETING without CARDS has none");
    SpeaksInTurn y = table("s<1", 0);
    y.meet(0);
    Due.refused("first(v, 0)", v -> y.first(v, 0), Due.VOID, -1, 0);
  }

  private static void keptAsItWas() {
    SpeaksInTurn x = table("1-s", 0, 0);
    x.card(0, 4, 1);
    x.meet(0);
    Due.promise(12, "THE MEETING kept is the latest one of meet()");
    Due.is("MINUTES", x.told(0), 3);
    Due.is("meet(11)", x.meet(11), Due.BAD);
    Due.is("MINUTES behind a refused one", x.told(0), 3);
    Due.law(x, "0");
    x.rule(0);
    x.order(0);
    x.times(0);
    x.row(0, 0, 0);
    x.film(0);
    Due.is("MINUTES behind others in thought", x.told(0), 3);
    Due.is("its SAYING", x.saying(0, 4), 1);
    Due.is("its THING", x.took(0, 1), 5);
    x.meet(0);
    Due.is("MINUTES of the latest", x.told(0), 0);
    Due.is("SAYINGS of the latest", x.told(1), 0);
    Due.is("its THING", x.took(0, 1), 1);
  }
}
