/** Promises 7 and 21: the law's text, its faults, and the wish that it tells. */
public final class LawTest {
  private static final int VOID = SpeaksInTurn.VOID;

  public static void main(String[] args) {
    faults();
    worth();
    lines();
    kept();
    without();
    Due.end();
  }

  private static SpeaksInTurn table() {
    SpeaksInTurn x = new SpeaksInTurn();
    x.person(40, 0);
    x.person(37, 0);
    x.thing(5, 2);
    x.thing(-3, 9);
    x.card(1, 1, 2);
    x.card(1, 1, 3);
    x.card(0, 1, 2);
    return x;
  }

  private static void fault(String text, int place) {
    Due.is("law " + text, Due.law(new SpeaksInTurn(), text), -100 - place);
  }

  private static void right(String text) {
    SpeaksInTurn x = new SpeaksInTurn();
    Due.is("law " + text, Due.law(x, text), 1);
    Due.is("the tape is empty then", x.count(3), 0);
  }

  private static void faults() {
    fault("", 0);
    fault("x", 0);
    fault(" r", 0);
    fault("r ", 1);
    fault("r?", 2);
    fault("r?v?e", 3);
    fault("r;", 2);
    fault(";r", 0);
    fault("r;;v", 2);
    fault("12345", 4);
    fault("00000", 4);
    fault("1r", 1);
    fault("r1", 1);
    fault("r<v<e", 3);
    fault("r=v>e", 3);
    fault("r+", 2);
    fault("r+*v", 2);
    fault("(r", 2);
    fault("(r;v)", 2);
    fault("(r?v)", 2);
    fault("r)", 1);
    fault("()", 1);
    fault("(r))", 3);
    fault("!", 1);
    fault("!+r", 1);
    fault("r!v", 1);
    fault("!!!!!!!r", 6);
    fault("(((((((r)))))))", 6);
    fault("-(-(-(-r", 6);
    fault("(r+(r+(r+(r+(r+(r+(r", 18);
    fault("r&&v", 2);
    fault("r||v", 2);
    fault("r<=v", 2);
    fault("r+(v<e=1)*2", 6);
    fault("1234?5678;90123", 14);
    right("0");
    right("0000");
    right("9999");
    right("r?v;e?n;s?t;p?l");
    right("!!!!!!r");
    right("((((((r))))))");
    right("!!!!!!r+!!!!!!v*((((((e))))))");
    right("-r--v");
    right("r?((((((v))))));0?!!!!!!e");
    fault("r?(((((((v", 8);
    right("(r<v)<e");
    right("r<v&v<e|e<n&n=1");
    right("(r|v)?(r<v)=(e>n);!p");
    StringBuilder longest = new StringBuilder("r");
    while (longest.length() < 119) {
      longest.append("+v");
    }
    right(longest.toString());
    fault(longest + "+", 120);
  }

  private static void wish(String text, int person, int thing, int due) {
    SpeaksInTurn x = table();
    Due.is("law " + text, Due.law(x, text), 1);
    Due.is("wish by " + text, x.wish(person, thing), due);
  }

  private static void worth() {
    wish("r", 1, 0, 3);
    wish("v", 1, 0, 7);
    wish("e", 1, 1, 9);
    wish("n", 1, 1, 2);
    wish("n", 0, 1, 1);
    wish("n", 0, 0, 0);
    wish("s", 1, 1, 0);
    wish("t", 1, 1, 0);
    wish("p", 1, 1, 1);
    wish("l", 1, 1, 0);
    wish("0012", 0, 0, 12);
    wish("7-2-1", 0, 0, 4);
    wish("100/7/2", 0, 0, 7);
    wish("2+3*4", 0, 0, 14);
    wish("(2+3)*4", 0, 0, 20);
    wish("-7/2", 0, 0, -3);
    wish("-7%3", 0, 0, -1);
    wish("7%-3", 0, 0, 1);
    wish("7/0", 0, 0, 0);
    wish("7%0", 0, 0, 0);
    wish("7%0+1/(r-r)+5", 0, 0, 5);
    wish("!5", 0, 0, 0);
    wish("!0", 0, 0, 1);
    wish("!!5", 0, 0, 1);
    wish("-5", 0, 0, -5);
    wish("--5", 0, 0, 5);
    wish("!-0", 0, 0, 1);
    wish("-2*3", 0, 0, -6);
    wish("3<4", 0, 0, 1);
    wish("4<3", 0, 0, 0);
    wish("4>3", 0, 0, 1);
    wish("3>3", 0, 0, 0);
    wish("3=3", 0, 0, 1);
    wish("1+2=3", 0, 0, 1);
    wish("(3<2)<1", 0, 0, 1);
    wish("5|0", 0, 0, 1);
    wish("0|0", 0, 0, 0);
    wish("5&2", 0, 0, 1);
    wish("5&0", 0, 0, 0);
    wish("1|0&0", 0, 0, 1);
    wish("(1|0)&0", 0, 0, 0);
    wish("9999*9999*9999", 0, 0, 9999 * 9999 * 9999);
    wish("(0-2048*1024*1024)/(0-1)", 0, 0, Integer.MIN_VALUE);
    wish("(0-2048*1024*1024)%(0-1)", 0, 0, 0);
    wish("-(0-2048*1024*1024)", 0, 0, Integer.MIN_VALUE);
  }

  private static void lines() {
    wish("0?5", 0, 0, 0);
    wish("1?5", 0, 0, 5);
    wish("-1?5", 0, 0, 5);
    wish("0?5;6", 0, 0, 6);
    wish("0;6", 0, 0, 0);
    wish("0?5;0?6;1?7;8", 0, 0, 7);
    wish("p?10;20", 0, 0, 20);
    wish("p?10;20", 1, 0, 10);
    wish("r>3?100+r;v>3&e>5?200+v;300", 0, 0, 104);
    wish("r>3?100+r;v>3&e>5?200+v;300", 1, 1, 207);
    wish("r>3?100+r;v>3&e>5?200+v;300", 1, 0, 300);
  }

  private static void kept() {
    SpeaksInTurn x = table();
    Due.is("law 7", Due.law(x, "7"), 1);
    Due.is("law at fault", Due.law(x, "8+"), -102);
    Due.is("the tape is empty behind a fault too", x.count(3), 0);
    Due.is("the former law holds on", x.wish(0, 0), 7);
    Due.is("law 9", Due.law(x, "9"), 1);
    Due.is("the latest law holds", x.wish(0, 0), 9);
    Due.is("fed", x.feed('r'), 1);
    Due.is("what is on the tape is no law yet", x.wish(0, 0), 9);
  }

  private static void without() {
    SpeaksInTurn x = table();
    Due.is("wish(0, 0)", x.wish(0, 0), 2);
    Due.is("wish(1, 1)", x.wish(1, 1), 20 + 9 + 7);
    Due.is("a fault leaves no law", Due.law(x, "("), -101);
    Due.is("wish(1, 0)", x.wish(1, 0), 10 + 2 + 7);
    int[][] bad = {{-1, 0}, {2, 0}, {0, -1}, {0, 2}, {Integer.MAX_VALUE, 0}, {0, Integer.MIN_VALUE}};
    for (int[] b : bad) {
      Due.is("wish bad", x.wish(b[0], b[1]), VOID);
    }
    x.mend(0, 2, 99);
    Due.is("one who comes late wishes too", x.wish(0, 1), 10 + 9);
    x.meet(0);
    Due.is("a meeting leaves wishes alone", x.wish(1, 1), 36);
  }
}
