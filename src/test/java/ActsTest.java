/** Promises 24 to 26: bodies, their acts, and the trace; with the counts of both. */
public final class ActsTest {
  public static void main(String[] args) {
    bodies();
    acts();
    wraps();
    none();
    Due.end();
  }

  private static void bodies() {
    SpeaksInTurn x = new SpeaksInTurn();
    Due.is("body(-1)", x.body(-1), -1);
    Due.is("body(8)", x.body(8), -1);
    Due.is("body(MAX)", x.body(Integer.MAX_VALUE), -1);
    for (int i = 0; i < 50; i++) {
      Due.is("body", x.body(i % 8), i);
    }
    Due.is("bad ahead of full", x.body(8), -1);
    Due.is("full", x.body(0), -3);
    Due.is("fifty", x.count(5), 50);
  }

  private static void act(SpeaksInTurn x, int body, int act, int arg, int due, int... trace) {
    String call = "act(" + body + ", " + act + ", " + arg + ")";
    Due.is(call, x.act(body, act, arg), due);
    Due.is(call + " ran", x.count(6), trace.length);
    for (int i = 0; i < trace.length; i++) {
      Due.is(call + " trace(" + i + ")", x.trace(i), trace[i]);
    }
    Due.is(call + " trace ends", x.trace(trace.length), -1);
    Due.is(call + " trace(-1)", x.trace(-1), -1);
    Due.is(call + " trace(MAX)", x.trace(Integer.MAX_VALUE), -1);
  }

  private static void acts() {
    SpeaksInTurn x = new SpeaksInTurn();
    for (int kind = 0; kind < 8; kind++) {
      x.body(kind);
    }
    act(x, 0, 0, 5, 5, 1);
    act(x, 0, 1, 5, 10, 10, 1);
    act(x, 0, 2, 5, 5, 11);
    act(x, 0, 3, 5, 10 - 1, 2, 10, 1, 11);
    act(x, 1, 0, 5, 9, 20, 1);
    act(x, 1, 1, 5, 18, 10, 20, 1);
    act(x, 1, 2, 5, 4, 11);
    act(x, 1, 3, 5, 18, 2, 10, 20, 1, 11);
    act(x, 2, 0, 5, 7, 1);
    act(x, 2, 1, 5, -14, 30, 10, 1);
    act(x, 2, 2, 5, 7, 11);
    act(x, 2, 3, 5, -14 - 3, 2, 30, 10, 1, 11);
    act(x, 3, 0, 5, 8, 1);
    act(x, 3, 1, 5, -18, 41, 30, 10, 1);
    act(x, 3, 2, 5, 18, 40, 11);
    act(x, 3, 3, 5, -18 - 6, 2, 41, 30, 10, 1, 40, 11);
    act(x, 4, 0, 5, 9, 1);
    act(x, 4, 1, 5, 18, 10, 1);
    act(x, 4, 2, 5, 1 - 6, 50, 11, 1);
    act(x, 4, 3, 5, 18 - (5 - 6), 2, 10, 1, 50, 11, 1);
    act(x, 5, 0, 5, 10, 1);
    act(x, 5, 1, 5, -22, 41, 30, 10, 1);
    act(x, 5, 2, 5, 0, 40, 11);
    act(x, 5, 3, 5, -34 ^ 5, 60, 2, 41, 30, 10, 1, 40, 11);
    act(x, 6, 0, 5, 22, 70, 1);
    act(x, 6, 1, 5, 44, 10, 70, 1);
    act(x, 6, 2, 5, 3, 11);
    act(x, 6, 3, 5, 44 - 7, 2, 10, 70, 1, 11);
    act(x, 7, 0, 5, 12, 1);
    act(x, 7, 1, 5, 24 + (5 - 9), 80, 10, 1, 50, 11, 1);
    act(x, 7, 2, 5, 2 - 9, 50, 11, 1);
    act(x, 7, 3, 5, 20 - (6 - 9) - 1, 81, 2, 80, 10, 1, 50, 11, 1, 50, 11, 1);
  }

  private static void wraps() {
    SpeaksInTurn x = new SpeaksInTurn();
    x.body(0);
    x.body(3);
    act(x, 1, 0, Integer.MAX_VALUE, Integer.MIN_VALUE, 1);
    act(x, 0, 1, Integer.MIN_VALUE, 0, 10, 1);
    act(x, 1, 1, Integer.MAX_VALUE, -((Integer.MIN_VALUE + 1) * 2), 41, 30, 10, 1);
    act(x, 1, 2, Integer.MIN_VALUE, (Integer.MIN_VALUE + 1) * 3, 40, 11);
  }

  private static void none() {
    SpeaksInTurn x = new SpeaksInTurn();
    act(x, 0, 0, 1, 0);
    x.body(0);
    int[][] bad = {{1, 0}, {-1, 0}, {0, 4}, {0, -1}, {Integer.MAX_VALUE, 0}, {0, Integer.MIN_VALUE}};
    for (int[] b : bad) {
      act(x, 0, 3, 7, 13, 2, 10, 1, 11);
      act(x, b[0], b[1], 7, 0);
    }
  }
}
