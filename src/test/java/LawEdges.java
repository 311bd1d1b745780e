/** The boundary cases of promises 7 and 21: the law's text, its fault, and the wish that it tells. */
final class LawEdges {
  private static final String GREATEST = "(2048*1024*1024-1)";
  private static final String LEAST = "(2048*1024*1024)";

  private LawEdges() { }

  static void run() {
    tapeEmptyThen();
    faultKeeps();
    tooLong();
    tooEarly();
    numbers();
    names();
    blanks();
    lines();
    compared();
    opened();
    openedMixed();
    bytes();
    divided();
    wraps();
    truths();
    whichLine();
    wishRefused();
    wishAheadOfMeeting();
    withoutText();
  }

  private static void right(String text) {
    Due.is("law of " + text, Due.law(new SpeaksInTurn(), text), 1);
  }

  private static void fault(String text, int place) {
    Due.is("law of " + text, Due.law(new SpeaksInTurn(), text), -100 - place);
  }

  private static SpeaksInTurn table() {
    SpeaksInTurn x = new SpeaksInTurn();
    x.person(0, 0);
    x.person(37, 0);
    x.thing(0, 0);
    x.thing(0, 9);
    return x;
  }

  private static void comesTo(String text, int due) {
    SpeaksInTurn x = table();
    Due.is("law of " + text, Due.law(x, text), 1);
    Due.is("wish by " + text, x.wish(0, 0), due);
  }

  private static String times(String part, int n) {
    return part.repeat(n);
  }

  // ---- promise 7

  private static void tapeEmptyThen() {
    SpeaksInTurn x = table();
    Due.promise(7, "THE TAPE is empty then: behind a law");
    Due.is("law of 7", Due.law(x, "7"), 1);
    Due.is("count(3)", x.count(3), 0);
    Due.promise(7, "an empty THE TAPE ends too early: its length is 0");
    Due.is("law()", x.law(), -100);
    Due.is("law() again", x.law(), -100);
    Due.promise(7, "THE TAPE is empty then: behind a FAULT");
    Due.is("law of 8+", Due.law(x, "8+"), -102);
    Due.is("count(3)", x.count(3), 0);
    Due.is("law of 9", Due.law(x, "9"), 1);
    Due.is("wish(0, 0)", x.wish(0, 0), 9);
    Due.promise(7, "what is on THE TAPE is no LAW yet");
    Due.is("feed('5')", x.feed('5'), 1);
    Due.is("wish(0, 0)", x.wish(0, 0), 9);
  }

  private static void faultKeeps() {
    SpeaksInTurn x = table();
    Due.promise(7, "a FAULT leaves the former LAW");
    Due.law(x, "7");
    Due.is("law of an empty tape", x.law(), -100);
    Due.is("wish(0, 0)", x.wish(0, 0), 7);
    Due.is("law of 8;9;", Due.law(x, "8;9;"), -104);
    Due.is("wish(0, 0)", x.wish(0, 0), 7);
    Due.promise(7, "a FAULT leaves no LAW where there was none");
    SpeaksInTurn y = table();
    Due.is("law of 8)", Due.law(y, "8)"), -101);
    Due.is("wish(1, 1)", y.wish(1, 1), 9 + 7);
  }

  private static void tooLong() {
    Due.promise(7, "at most 120 bytes: all of them count");
    comesTo("10" + times("+1", 59), 69);
    comesTo("11" + times("+1", 58) + "+9", 78);
    comesTo(times("0?0;", 29) + "5-12", -7);
    Due.promise(7, "FAULT: the last place of 120");
    fault("10" + times("+1", 58) + "+)", 119);
    fault("1" + times("+1", 59) + ")", 119);
    Due.promise(7, "FAULT: the length of 120 if it ends too early");
    fault("1" + times("+1", 59) + "+", 120);
    fault(times("0?0;", 30), 120);
    fault(times("(1+1)+", 19) + "(1+1+1", 120);
    SpeaksInTurn x = table();
    Due.promise(7, "at most 120 bytes: what THE TAPE refused is not of the TEXT");
    for (int i = 0; i < 60; i++) {
      x.feed(i == 0 ? '-' : '+');
      x.feed('1');
    }
    Due.is("feed(')')", x.feed(')'), Due.FULL);
    Due.is("law()", x.law(), 1);
    Due.is("wish(0, 0)", x.wish(0, 0), 58);
  }

  private static void tooEarly() {
    Due.promise(7, "FAULT: the length, if it ends too early");
    fault("", 0);
    fault("(", 1);
    fault("!", 1);
    fault("-", 1);
    fault("(r", 2);
    fault("r+", 2);
    fault("r-", 2);
    fault("r*", 2);
    fault("r/", 2);
    fault("r%", 2);
    fault("r<", 2);
    fault("r=", 2);
    fault("r>", 2);
    fault("r&", 2);
    fault("r|", 2);
    fault("r?", 2);
    fault("r;", 2);
    Due.promise(7, "FAULT: the first byte with which no TEXT goes on");
    for (String sign : ") + * / % < = > & | ? ; x".split(" ")) {
      fault(sign + "r", 0);
      fault("r+" + sign + "(", 2);
      fault("(" + sign, 1);
    }
    fault("r)", 1);
    fault("r(", 1);
    fault("r!", 1);
    fault("(r))", 3);
    fault("()", 1);
    fault("r))(", 1);
  }

  private static void numbers() {
    Due.promise(7, "a number (1 to 4 digits)");
    comesTo("9", 9);
    comesTo("9999", 9999);
    comesTo("0000", 0);
    comesTo("0009", 9);
    fault("10000", 4);
    fault("00000", 4);
    fault("0+12345", 6);
    fault("1?12345", 6);
    fault("123456789", 4);
    Due.promise(7, "a number ends ahead of a NAME");
    fault("1r", 1);
    fault("r1", 1);
    fault("9999r", 4);
  }

  private static void names() {
    Due.promise(7, "NAMES: r v e n s t p l and no others");
    for (char c = 'a'; c <= 'z'; c++) {
      if ("rvenstpl".indexOf(c) >= 0) {
        right("" + c);
        fault("" + c + c, 1);
      } else {
        fault("" + c, 0);
      }
      fault("" + (char) (c - 'a' + 'A'), 0);
    }
  }

  private static void blanks() {
    Due.promise(7, "no blanks");
    fault(" r", 0);
    fault("r ", 1);
    fault("r +v", 1);
    fault("r+ v", 2);
    fault("1 2", 1);
    fault("( r)", 1);
    fault("r; v", 2);
    fault("r\n", 1);
  }

  private static void lines() {
    Due.promise(7, "LINES, one or more, parted by ;");
    right("r");
    right("r;v");
    right("r;v;e;n;s;t;p;l");
    fault(";", 0);
    fault("r;", 2);
    fault("r;;v", 2);
    fault("(r;v)", 2);
    Due.promise(7, "LINE: E, or E ? E");
    right("r?v");
    right("r?v;r?v");
    fault("?r", 0);
    fault("r?v?e", 3);
    fault("r??v", 2);
    fault("(r?v)", 2);
    fault("r?;v", 2);
  }

  private static void compared() {
    Due.promise(7, "B = S, or S < S, S = S, S > S: one sign at most");
    for (String a : "< = >".split(" ")) {
      right("r" + a + "v");
      right("(r" + a + "v)" + a + "e");
      right("r" + a + "v&r" + a + "v|r" + a + "v");
      for (String b : "< = >".split(" ")) {
        fault("r" + a + "v" + b + "e", 3);
        fault("r" + a + b + "v", 2);
      }
    }
    Due.promise(7, "E = A { | A }, A = B { & B }: one sign each");
    fault("r||v", 2);
    fault("r&&v", 2);
    fault("r|&v", 2);
  }

  private static void opened() {
    Due.promise(7, "at most 6 of ( ! - are open at once");
    for (char sign : "(!-".toCharArray()) {
      String open = "" + sign;
      String close = sign == '(' ? ")" : "";
      right(times(open, 6) + "1" + times(close, 6));
      fault(times(open, 7) + "1" + times(close, 7), 6);
      fault(times(open, 8), 6);
      fault(times(open, 6), 6);
      right("0?" + times(open, 6) + "1" + times(close, 6));
      fault("0?" + times(open, 7) + "1" + times(close, 7), 8);
      right("0;" + times(open, 6) + "1" + times(close, 6));
      fault("0;" + times(open, 7) + "1" + times(close, 7), 8);
    }
  }

  private static void openedMixed() {
    Due.promise(7, "at most 6 are open at once: ( ! and - together");
    right("(!-(!-1))");
    fault("(!-(!-(1)))", 6);
    fault("(!-(!-!1))", 6);
    fault("-(-(-(-1)))", 6);
    right("(1+!!!!!1)");
    fault("(1+!!!!!!1)", 8);
    fault("(1*(1|(1&(1<(1+(1?", 17);
    fault("(1*(1|(1&(1<(1+(1-(", 18);
    Due.promise(7, "at most 6 are open at once: what is closed counts no more");
    right("((((((1))))))+((((((1))))))");
    right("!!!!!!1*------1%((((((1))))))");
    right("(((((1)+(1)-(1)))))");
    right("(!!!!!1|!!!!!1)");
    right(times("(1)+", 29) + "(1)");
    right("(" + times("!1+", 20) + "1)");
    Due.promise(7, "a - behind an O opens nothing");
    right("1" + times("-1", 59));
    right("(((((1-1-1-1-1-1-1-1)))))");
    comesTo("5-------1", 4);
    fault("5--------1", 8);
  }

  private static void bytes() {
    Due.promise(7, "bytes 0, 127, 128, 255 go on with no TEXT");
    for (int b : new int[] {0, 1, 31, 127, 128, 'r' + 128, '(' + 128, '0' + 128, 255, '0' - 1, '9' + 1}) {
      SpeaksInTurn x = table();
      x.feed(b);
      Due.is("law of byte " + b, x.law(), -100);
      x.feed('r');
      x.feed('+');
      x.feed(b);
      Due.is("law of r+ and byte " + b, x.law(), -102);
    }
  }

  // ---- promise 21

  private static void divided() {
    Due.promise(21, "/ and % toward 0");
    comesTo("7/2", 3);
    comesTo("-7/2", -3);
    comesTo("7/-2", -3);
    comesTo("-7/-2", 3);
    comesTo("7%2", 1);
    comesTo("-7%2", -1);
    comesTo("7%-2", 1);
    comesTo("-7%-2", -1);
    comesTo("1/2", 0);
    comesTo("-1/2", 0);
    Due.promise(21, "/ and % by 0 give 0");
    comesTo("7/0", 0);
    comesTo("-7/0", 0);
    comesTo("0/0", 0);
    comesTo("7%0", 0);
    comesTo("-7%0", 0);
    comesTo("0%0", 0);
    comesTo("3+7/(r-r)+7%r", 3);
    comesTo("1?7/0", 0);
  }

  private static void wraps() {
    Due.promise(21, "ints that wrap");
    comesTo(GREATEST, Due.MAX);
    comesTo(LEAST, Due.MIN);
    comesTo(GREATEST + "+1", Due.MIN);
    comesTo(LEAST + "-1", Due.MAX);
    comesTo("-" + LEAST, Due.MIN);
    comesTo("0-" + LEAST, Due.MIN);
    comesTo("-" + GREATEST, Due.MIN + 1);
    comesTo(GREATEST + "*2", -2);
    comesTo(GREATEST + "*" + GREATEST, 1);
    comesTo(LEAST + "*" + LEAST, 0);
    comesTo("9999*9999*9999", 9999 * 9999 * 9999);
    comesTo("1024*1024*1024*4", 0);
    Due.promise(21, "ints that wrap: the least by -1");
    comesTo(LEAST + "/-1", Due.MIN);
    comesTo(LEAST + "%-1", 0);
    comesTo(LEAST + "*-1", Due.MIN);
    Due.promise(21, "< = > of the least and the greatest int");
    comesTo(LEAST + "<" + GREATEST, 1);
    comesTo(LEAST + ">" + GREATEST, 0);
    comesTo(GREATEST + ">" + LEAST, 1);
    comesTo(GREATEST + "<" + LEAST, 0);
    comesTo(LEAST + "=" + LEAST, 1);
    comesTo(LEAST + "=" + GREATEST, 0);
    comesTo("-" + LEAST + "=" + LEAST, 1);
  }

  private static void truths() {
    Due.promise(21, "| & < = > ! give 1, 0");
    comesTo("2|0", 1);
    comesTo("0|-2", 1);
    comesTo("0|0", 0);
    comesTo("2|4", 1);
    comesTo("2&4", 1);
    comesTo("-1&-1", 1);
    comesTo("2&0", 0);
    comesTo("0&2", 0);
    comesTo("!0", 1);
    comesTo("!1", 0);
    comesTo("!-1", 0);
    comesTo("!!7", 1);
    comesTo("3<3", 0);
    comesTo("3<4", 1);
    comesTo("4<3", 0);
    comesTo("3>3", 0);
    comesTo("4>3", 1);
    comesTo("3>4", 0);
    comesTo("3=3", 1);
    comesTo("3=4", 0);
    comesTo("2=!0", 0);
    Due.promise(21, "all is worked out: by 0 too, where it counts no more");
    comesTo("1|7/0", 1);
    comesTo("0&7%0", 0);
  }

  private static void whichLine() {
    Due.promise(21, "the first LINE without a first E counts");
    comesTo("5", 5);
    comesTo("0;7", 0);
    comesTo("5;7", 5);
    comesTo("0?5;0;7", 0);
    Due.promise(21, "the first LINE whose first E is not 0 counts");
    comesTo("1?5", 5);
    comesTo("-1?5;7", 5);
    comesTo("0?5;1?6;1?7;8", 6);
    comesTo("1?0;7", 0);
    comesTo(LEAST + "?5;7", 5);
    comesTo("1024*1024*4096?5;7", 7);
    Due.promise(21, "none: 0");
    comesTo("0?5", 0);
    comesTo("0?5;r?6;1-1?7", 0);
  }

  private static void wishRefused() {
    SpeaksInTurn x = new SpeaksInTurn();
    Due.promise(21, "VOID: no such PERSON, no such THING");
    Due.is("wish(0, 0) of nobody for nothing", x.wish(0, 0), Due.VOID);
    x.person(0, 0);
    Due.is("wish(0, 0) for nothing", x.wish(0, 0), Due.VOID);
    x.thing(0, 0);
    x.thing(0, 0);
    Due.refused("wish(v, 0)", v -> x.wish(v, 0), Due.VOID, -1, 1, 2, 10);
    Due.refused("wish(0, v)", v -> x.wish(0, v), Due.VOID, -1, 2, 3, 6);
    Due.is("wish(0, 0)", x.wish(0, 0), 0);
    Due.is("wish(0, 1)", x.wish(0, 1), 0);
    SpeaksInTurn y = new SpeaksInTurn();
    y.thing(0, 0);
    Due.is("wish(0, 0) of nobody", y.wish(0, 0), Due.VOID);
    Due.promise(21, "a WISH below 0 is no refusal");
    Due.law(x, "-1");
    Due.is("wish(0, 0)", x.wish(0, 0), -1);
  }

  private static void wishAheadOfMeeting() {
    SpeaksInTurn x = new SpeaksInTurn();
    x.person(0, 99);
    x.thing(0, 0);
    x.thing(0, 0);
    x.card(0, 0, 1);
    x.card(0, 0, 3);
    x.card(0, 0, 2);
    x.card(1, 0, 1);
    Due.law(x, "n*1000+s*100+t*10+l");
    Due.promise(21, "now, ahead of any MEETING: all CARDS are not said, nobody has spoken, no MINUTES");
    Due.is("wish(0, 0)", x.wish(0, 0), 2000);
    Due.is("wish(0, 1)", x.wish(0, 1), 1000);
    x.mend(0, 2, 0);
    Due.is("a meeting", x.meet(0) > 0 ? 1 : 0, 1);
    Due.is("wish(0, 0) behind a meeting", x.wish(0, 0), 2000);
    Due.is("wish(0, 1) behind a meeting", x.wish(0, 1), 1000);
    x.rule(0);
    Due.is("wish(0, 0) behind a thought", x.wish(0, 0), 2000);
    x.times(0);
    Due.is("wish(0, 1) behind another one", x.wish(0, 1), 1000);
    Due.is("wish(0, 0) behind another one", x.wish(0, 0), 2000);
    Due.promise(21, "one's CARDS of it: none");
    x.person(0, 0);
    x.person(0, 0);
    Due.is("wish(2, 0)", x.wish(2, 0), 0);
    Due.is("wish(1, 1)", x.wish(1, 1), 0);
  }

  private static void withoutText() {
    SpeaksInTurn x = new SpeaksInTurn();
    x.person(90, 99);
    x.person(9, 0);
    x.thing(0, 0);
    x.thing(0, 9);
    for (int c = 0; c < 20; c++) {
      x.card(1, 0, 2);
    }
    Due.promise(21, "without a TEXT: 10 n and e and v: the least and the most");
    Due.is("wish(0, 0)", x.wish(0, 0), 0);
    Due.is("wish(1, 1)", x.wish(1, 1), 200 + 9 + 9);
    Due.promise(21, "without a TEXT: less 5 s");
    SpeaksInTurn y = new SpeaksInTurn();
    y.person(5, 0);
    y.thing(0, 0);
    Due.is("5, then 0: one saying", y.meet(0), 1);
    y.mend(0, 1, 6);
    Due.is("6, 1, then below 0: two sayings", y.meet(0), 2);
  }
}
